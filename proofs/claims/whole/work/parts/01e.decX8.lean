theorem dX8_init_0 : decode cX8_init 0 = .ok (.aload_n 0, 1) := by decide +kernel
theorem dX8_init_1 : decode cX8_init 1 = .ok (.invokespecial 7, 3) := by decide +kernel
theorem dX8_init_4 : decode cX8_init 4 = .ok (.aload_n 0, 1) := by decide +kernel
theorem dX8_init_5 : decode cX8_init 5 = .ok (.sipush 2000, 3) := by decide +kernel
theorem dX8_init_8 : decode cX8_init 8 = .ok (.newarray .byte, 2) := by decide +kernel
theorem dX8_init_10 : decode cX8_init 10 = .ok (.putfield 13, 3) := by decide +kernel
theorem dX8_init_13 : decode cX8_init 13 = .ok (.aload_n 0, 1) := by decide +kernel
theorem dX8_init_14 : decode cX8_init 14 = .ok (.sipush 2000, 3) := by decide +kernel
theorem dX8_init_17 : decode cX8_init 17 = .ok (.newarray .byte, 2) := by decide +kernel
theorem dX8_init_19 : decode cX8_init 19 = .ok (.putfield 17, 3) := by decide +kernel
theorem dX8_init_22 : decode cX8_init 22 = .ok (.aload_n 0, 1) := by decide +kernel
theorem dX8_init_23 : decode cX8_init 23 = .ok (.sipush 403, 3) := by decide +kernel
theorem dX8_init_26 : decode cX8_init 26 = .ok (.newarray .int, 2) := by decide +kernel
theorem dX8_init_28 : decode cX8_init 28 = .ok (.putfield 20, 3) := by decide +kernel
theorem dX8_init_31 : decode cX8_init 31 = .ok (.aload_n 0, 1) := by decide +kernel
theorem dX8_init_32 : decode cX8_init 32 = .ok (.sipush 403, 3) := by decide +kernel
theorem dX8_init_35 : decode cX8_init 35 = .ok (.newarray .int, 2) := by decide +kernel
theorem dX8_init_37 : decode cX8_init 37 = .ok (.putfield 24, 3) := by decide +kernel
theorem dX8_init_40 : decode cX8_init 40 = .ok (.aload_n 0, 1) := by decide +kernel
theorem dX8_init_41 : decode cX8_init 41 = .ok (.sipush 403, 3) := by decide +kernel
theorem dX8_init_44 : decode cX8_init 44 = .ok (.newarray .int, 2) := by decide +kernel
theorem dX8_init_46 : decode cX8_init 46 = .ok (.putfield 27, 3) := by decide +kernel
theorem dX8_init_49 : decode cX8_init 49 = .ok (.aload_n 0, 1) := by decide +kernel
theorem dX8_init_50 : decode cX8_init 50 = .ok (.sipush 403, 3) := by decide +kernel
theorem dX8_init_53 : decode cX8_init 53 = .ok (.newarray .long, 2) := by decide +kernel
theorem dX8_init_55 : decode cX8_init 55 = .ok (.putfield 30, 3) := by decide +kernel
theorem dX8_init_58 : decode cX8_init 58 = .ok (.aload_n 0, 1) := by decide +kernel
theorem dX8_init_59 : decode cX8_init 59 = .ok (.bipush 20, 2) := by decide +kernel
theorem dX8_init_61 : decode cX8_init 61 = .ok (.newarray .long, 2) := by decide +kernel
theorem dX8_init_63 : decode cX8_init 63 = .ok (.putfield 34, 3) := by decide +kernel
theorem dX8_init_66 : decode cX8_init 66 = .ok (.aload_n 0, 1) := by decide +kernel
theorem dX8_init_67 : decode cX8_init 67 = .ok (.iconst (-1), 1) := by decide +kernel
theorem dX8_init_68 : decode cX8_init 68 = .ok (.putfield 37, 3) := by decide +kernel
theorem dX8_init_71 : decode cX8_init 71 = .ok (.aload_n 0, 1) := by decide +kernel
theorem dX8_init_72 : decode cX8_init 72 = .ok (.sipush 210, 3) := by decide +kernel
theorem dX8_init_75 : decode cX8_init 75 = .ok (.newarray .int, 2) := by decide +kernel
theorem dX8_init_77 : decode cX8_init 77 = .ok (.putfield 40, 3) := by decide +kernel
theorem dX8_init_80 : decode cX8_init 80 = .ok (.aload_n 0, 1) := by decide +kernel
theorem dX8_init_81 : decode cX8_init 81 = .ok (.sipush 840, 3) := by decide +kernel
theorem dX8_init_84 : decode cX8_init 84 = .ok (.newarray .int, 2) := by decide +kernel
theorem dX8_init_86 : decode cX8_init 86 = .ok (.putfield 43, 3) := by decide +kernel
theorem dX8_init_89 : decode cX8_init 89 = .ok (.aload_n 0, 1) := by decide +kernel
theorem dX8_init_90 : decode cX8_init 90 = .ok (.sipush 210, 3) := by decide +kernel
theorem dX8_init_93 : decode cX8_init 93 = .ok (.newarray .int, 2) := by decide +kernel
theorem dX8_init_95 : decode cX8_init 95 = .ok (.putfield 46, 3) := by decide +kernel
theorem dX8_init_98 : decode cX8_init 98 = .ok (.aload_n 0, 1) := by decide +kernel
theorem dX8_init_99 : decode cX8_init 99 = .ok (.sipush 210, 3) := by decide +kernel
theorem dX8_init_102 : decode cX8_init 102 = .ok (.newarray .int, 2) := by decide +kernel
theorem dX8_init_104 : decode cX8_init 104 = .ok (.putfield 49, 3) := by decide +kernel
theorem dX8_init_107 : decode cX8_init 107 = .ok (.aload_n 0, 1) := by decide +kernel
theorem dX8_init_108 : decode cX8_init 108 = .ok (.iconst 3, 1) := by decide +kernel
theorem dX8_init_109 : decode cX8_init 109 = .ok (.newarray .int, 2) := by decide +kernel
theorem dX8_init_111 : decode cX8_init 111 = .ok (.putfield 52, 3) := by decide +kernel
theorem dX8_init_114 : decode cX8_init 114 = .ok (.aload_n 0, 1) := by decide +kernel
theorem dX8_init_115 : decode cX8_init 115 = .ok (.sipush 420, 3) := by decide +kernel
theorem dX8_init_118 : decode cX8_init 118 = .ok (.newarray .int, 2) := by decide +kernel
theorem dX8_init_120 : decode cX8_init 120 = .ok (.putfield 55, 3) := by decide +kernel
theorem dX8_init_123 : decode cX8_init 123 = .ok (.aload_n 0, 1) := by decide +kernel
theorem dX8_init_124 : decode cX8_init 124 = .ok (.sipush 420, 3) := by decide +kernel
theorem dX8_init_127 : decode cX8_init 127 = .ok (.newarray .int, 2) := by decide +kernel
theorem dX8_init_129 : decode cX8_init 129 = .ok (.putfield 58, 3) := by decide +kernel
theorem dX8_init_132 : decode cX8_init 132 = .ok (.aload_n 0, 1) := by decide +kernel
theorem dX8_init_133 : decode cX8_init 133 = .ok (.bipush 64, 2) := by decide +kernel
theorem dX8_init_135 : decode cX8_init 135 = .ok (.newarray .int, 2) := by decide +kernel
theorem dX8_init_137 : decode cX8_init 137 = .ok (.putfield 61, 3) := by decide +kernel
theorem dX8_init_140 : decode cX8_init 140 = .ok (.aload_n 0, 1) := by decide +kernel
theorem dX8_init_141 : decode cX8_init 141 = .ok (.bipush 6, 2) := by decide +kernel
theorem dX8_init_143 : decode cX8_init 143 = .ok (.newarray .int, 2) := by decide +kernel
theorem dX8_init_145 : decode cX8_init 145 = .ok (.putfield 64, 3) := by decide +kernel
theorem dX8_init_148 : decode cX8_init 148 = .ok (.aload_n 0, 1) := by decide +kernel
theorem dX8_init_149 : decode cX8_init 149 = .ok (.sipush 400, 3) := by decide +kernel
theorem dX8_init_152 : decode cX8_init 152 = .ok (.newarray .int, 2) := by decide +kernel
theorem dX8_init_154 : decode cX8_init 154 = .ok (.putfield 67, 3) := by decide +kernel
theorem dX8_init_157 : decode cX8_init 157 = .ok (.aload_n 0, 1) := by decide +kernel
theorem dX8_init_158 : decode cX8_init 158 = .ok (.iconst 3, 1) := by decide +kernel
theorem dX8_init_159 : decode cX8_init 159 = .ok (.newarray .int, 2) := by decide +kernel
theorem dX8_init_161 : decode cX8_init 161 = .ok (.putfield 70, 3) := by decide +kernel
theorem dX8_init_164 : decode cX8_init 164 = .ok (.aload_n 0, 1) := by decide +kernel
theorem dX8_init_165 : decode cX8_init 165 = .ok (.sipush 7164, 3) := by decide +kernel
theorem dX8_init_168 : decode cX8_init 168 = .ok (.newarray .int, 2) := by decide +kernel
theorem dX8_init_170 : decode cX8_init 170 = .ok (.putfield 73, 3) := by decide +kernel
theorem dX8_init_173 : decode cX8_init 173 = .ok (.aload_n 0, 1) := by decide +kernel
theorem dX8_init_174 : decode cX8_init 174 = .ok (.bipush 8, 2) := by decide +kernel
theorem dX8_init_176 : decode cX8_init 176 = .ok (.newarray .int, 2) := by decide +kernel
theorem dX8_init_178 : decode cX8_init 178 = .ok (.putfield 76, 3) := by decide +kernel
theorem dX8_init_181 : decode cX8_init 181 = .ok (.aload_n 0, 1) := by decide +kernel
theorem dX8_init_182 : decode cX8_init 182 = .ok (.bipush 16, 2) := by decide +kernel
theorem dX8_init_184 : decode cX8_init 184 = .ok (.newarray .int, 2) := by decide +kernel
theorem dX8_init_186 : decode cX8_init 186 = .ok (.putfield 79, 3) := by decide +kernel
theorem dX8_init_189 : decode cX8_init 189 = .ok (.aload_n 0, 1) := by decide +kernel
theorem dX8_init_190 : decode cX8_init 190 = .ok (.iconst 3, 1) := by decide +kernel
theorem dX8_init_191 : decode cX8_init 191 = .ok (.newarray .boolean, 2) := by decide +kernel
theorem dX8_init_193 : decode cX8_init 193 = .ok (.putfield 82, 3) := by decide +kernel
theorem dX8_init_196 : decode cX8_init 196 = .ok (.aload_n 0, 1) := by decide +kernel
theorem dX8_init_197 : decode cX8_init 197 = .ok (.sipush 21492, 3) := by decide +kernel
theorem dX8_init_200 : decode cX8_init 200 = .ok (.newarray .int, 2) := by decide +kernel
theorem dX8_init_202 : decode cX8_init 202 = .ok (.putfield 86, 3) := by decide +kernel
theorem dX8_init_205 : decode cX8_init 205 = .ok (.aload_n 0, 1) := by decide +kernel
theorem dX8_init_206 : decode cX8_init 206 = .ok (.getfield 34, 3) := by decide +kernel
theorem dX8_init_209 : decode cX8_init 209 = .ok (.iconst 0, 1) := by decide +kernel
theorem dX8_init_210 : decode cX8_init 210 = .ok (.bipush 112, 2) := by decide +kernel
theorem dX8_init_212 : decode cX8_init 212 = .ok (.bipush 97, 2) := by decide +kernel
theorem dX8_init_214 : decode cX8_init 214 = .ok (.bipush 103, 2) := by decide +kernel
theorem dX8_init_216 : decode cX8_init 216 = .ok (.bipush 101, 2) := by decide +kernel
theorem dX8_init_218 : decode cX8_init 218 = .ok (.bipush 115, 2) := by decide +kernel
theorem dX8_init_220 : decode cX8_init 220 = .ok (.iconst 0, 1) := by decide +kernel
theorem dX8_init_221 : decode cX8_init 221 = .ok (.iconst 0, 1) := by decide +kernel
theorem dX8_init_222 : decode cX8_init 222 = .ok (.invokestatic 89, 3) := by decide +kernel
theorem dX8_init_225 : decode cX8_init 225 = .ok (.lastore, 1) := by decide +kernel
theorem dX8_init_226 : decode cX8_init 226 = .ok (.aload_n 0, 1) := by decide +kernel
theorem dX8_init_227 : decode cX8_init 227 = .ok (.getfield 34, 3) := by decide +kernel
theorem dX8_init_230 : decode cX8_init 230 = .ok (.iconst 1, 1) := by decide +kernel
theorem dX8_init_231 : decode cX8_init 231 = .ok (.bipush 112, 2) := by decide +kernel
theorem dX8_init_233 : decode cX8_init 233 = .ok (.bipush 105, 2) := by decide +kernel
theorem dX8_init_235 : decode cX8_init 235 = .ok (.bipush 101, 2) := by decide +kernel
theorem dX8_init_237 : decode cX8_init 237 = .ok (.bipush 99, 2) := by decide +kernel
theorem dX8_init_239 : decode cX8_init 239 = .ok (.bipush 101, 2) := by decide +kernel
theorem dX8_init_241 : decode cX8_init 241 = .ok (.iconst 0, 1) := by decide +kernel
theorem dX8_init_242 : decode cX8_init 242 = .ok (.iconst 0, 1) := by decide +kernel
theorem dX8_init_243 : decode cX8_init 243 = .ok (.invokestatic 89, 3) := by decide +kernel
theorem dX8_init_246 : decode cX8_init 246 = .ok (.lastore, 1) := by decide +kernel
theorem dX8_init_247 : decode cX8_init 247 = .ok (.aload_n 0, 1) := by decide +kernel
theorem dX8_init_248 : decode cX8_init 248 = .ok (.getfield 34, 3) := by decide +kernel
theorem dX8_init_251 : decode cX8_init 251 = .ok (.iconst 2, 1) := by decide +kernel
theorem dX8_init_252 : decode cX8_init 252 = .ok (.bipush 119, 2) := by decide +kernel
theorem dX8_init_254 : decode cX8_init 254 = .ok (.bipush 114, 2) := by decide +kernel
theorem dX8_init_256 : decode cX8_init 256 = .ok (.bipush 105, 2) := by decide +kernel
theorem dX8_init_258 : decode cX8_init 258 = .ok (.bipush 116, 2) := by decide +kernel
theorem dX8_init_260 : decode cX8_init 260 = .ok (.bipush 101, 2) := by decide +kernel
theorem dX8_init_262 : decode cX8_init 262 = .ok (.iconst 0, 1) := by decide +kernel
theorem dX8_init_263 : decode cX8_init 263 = .ok (.iconst 0, 1) := by decide +kernel
theorem dX8_init_264 : decode cX8_init 264 = .ok (.invokestatic 89, 3) := by decide +kernel
theorem dX8_init_267 : decode cX8_init 267 = .ok (.lastore, 1) := by decide +kernel
theorem dX8_init_268 : decode cX8_init 268 = .ok (.aload_n 0, 1) := by decide +kernel
theorem dX8_init_269 : decode cX8_init 269 = .ok (.getfield 34, 3) := by decide +kernel
theorem dX8_init_272 : decode cX8_init 272 = .ok (.iconst 3, 1) := by decide +kernel
theorem dX8_init_273 : decode cX8_init 273 = .ok (.bipush 97, 2) := by decide +kernel
theorem dX8_init_275 : decode cX8_init 275 = .ok (.bipush 100, 2) := by decide +kernel
theorem dX8_init_277 : decode cX8_init 277 = .ok (.bipush 100, 2) := by decide +kernel
theorem dX8_init_279 : decode cX8_init 279 = .ok (.iconst 0, 1) := by decide +kernel
theorem dX8_init_280 : decode cX8_init 280 = .ok (.iconst 0, 1) := by decide +kernel
theorem dX8_init_281 : decode cX8_init 281 = .ok (.iconst 0, 1) := by decide +kernel
theorem dX8_init_282 : decode cX8_init 282 = .ok (.iconst 0, 1) := by decide +kernel
theorem dX8_init_283 : decode cX8_init 283 = .ok (.invokestatic 89, 3) := by decide +kernel
theorem dX8_init_286 : decode cX8_init 286 = .ok (.lastore, 1) := by decide +kernel
theorem dX8_init_287 : decode cX8_init 287 = .ok (.aload_n 0, 1) := by decide +kernel
theorem dX8_init_288 : decode cX8_init 288 = .ok (.getfield 34, 3) := by decide +kernel
theorem dX8_init_291 : decode cX8_init 291 = .ok (.iconst 4, 1) := by decide +kernel
theorem dX8_init_292 : decode cX8_init 292 = .ok (.bipush 109, 2) := by decide +kernel
theorem dX8_init_294 : decode cX8_init 294 = .ok (.bipush 97, 2) := by decide +kernel
theorem dX8_init_296 : decode cX8_init 296 = .ok (.bipush 114, 2) := by decide +kernel
theorem dX8_init_298 : decode cX8_init 298 = .ok (.bipush 107, 2) := by decide +kernel
theorem dX8_init_300 : decode cX8_init 300 = .ok (.iconst 0, 1) := by decide +kernel
theorem dX8_init_301 : decode cX8_init 301 = .ok (.iconst 0, 1) := by decide +kernel
theorem dX8_init_302 : decode cX8_init 302 = .ok (.iconst 0, 1) := by decide +kernel
theorem dX8_init_303 : decode cX8_init 303 = .ok (.invokestatic 89, 3) := by decide +kernel
theorem dX8_init_306 : decode cX8_init 306 = .ok (.lastore, 1) := by decide +kernel
theorem dX8_init_307 : decode cX8_init 307 = .ok (.aload_n 0, 1) := by decide +kernel
theorem dX8_init_308 : decode cX8_init 308 = .ok (.getfield 34, 3) := by decide +kernel
theorem dX8_init_311 : decode cX8_init 311 = .ok (.iconst 5, 1) := by decide +kernel
theorem dX8_init_312 : decode cX8_init 312 = .ok (.bipush 102, 2) := by decide +kernel
theorem dX8_init_314 : decode cX8_init 314 = .ok (.bipush 105, 2) := by decide +kernel
theorem dX8_init_316 : decode cX8_init 316 = .ok (.bipush 108, 2) := by decide +kernel
theorem dX8_init_318 : decode cX8_init 318 = .ok (.bipush 108, 2) := by decide +kernel
theorem dX8_init_320 : decode cX8_init 320 = .ok (.iconst 0, 1) := by decide +kernel
theorem dX8_init_321 : decode cX8_init 321 = .ok (.iconst 0, 1) := by decide +kernel
theorem dX8_init_322 : decode cX8_init 322 = .ok (.iconst 0, 1) := by decide +kernel
theorem dX8_init_323 : decode cX8_init 323 = .ok (.invokestatic 89, 3) := by decide +kernel
theorem dX8_init_326 : decode cX8_init 326 = .ok (.lastore, 1) := by decide +kernel
theorem dX8_init_327 : decode cX8_init 327 = .ok (.aload_n 0, 1) := by decide +kernel
theorem dX8_init_328 : decode cX8_init 328 = .ok (.getfield 34, 3) := by decide +kernel
theorem dX8_init_331 : decode cX8_init 331 = .ok (.bipush 6, 2) := by decide +kernel
theorem dX8_init_333 : decode cX8_init 333 = .ok (.bipush 99, 2) := by decide +kernel
theorem dX8_init_335 : decode cX8_init 335 = .ok (.bipush 111, 2) := by decide +kernel
theorem dX8_init_337 : decode cX8_init 337 = .ok (.bipush 112, 2) := by decide +kernel
theorem dX8_init_339 : decode cX8_init 339 = .ok (.bipush 121, 2) := by decide +kernel
theorem dX8_init_341 : decode cX8_init 341 = .ok (.iconst 0, 1) := by decide +kernel
theorem dX8_init_342 : decode cX8_init 342 = .ok (.iconst 0, 1) := by decide +kernel
theorem dX8_init_343 : decode cX8_init 343 = .ok (.iconst 0, 1) := by decide +kernel
theorem dX8_init_344 : decode cX8_init 344 = .ok (.invokestatic 89, 3) := by decide +kernel
theorem dX8_init_347 : decode cX8_init 347 = .ok (.lastore, 1) := by decide +kernel
theorem dX8_init_348 : decode cX8_init 348 = .ok (.aload_n 0, 1) := by decide +kernel
theorem dX8_init_349 : decode cX8_init 349 = .ok (.getfield 34, 3) := by decide +kernel
theorem dX8_init_352 : decode cX8_init 352 = .ok (.bipush 7, 2) := by decide +kernel
theorem dX8_init_354 : decode cX8_init 354 = .ok (.bipush 117, 2) := by decide +kernel
theorem dX8_init_356 : decode cX8_init 356 = .ok (.bipush 112, 2) := by decide +kernel
theorem dX8_init_358 : decode cX8_init 358 = .ok (.bipush 111, 2) := by decide +kernel
theorem dX8_init_360 : decode cX8_init 360 = .ok (.bipush 110, 2) := by decide +kernel
theorem dX8_init_362 : decode cX8_init 362 = .ok (.iconst 0, 1) := by decide +kernel
theorem dX8_init_363 : decode cX8_init 363 = .ok (.iconst 0, 1) := by decide +kernel
theorem dX8_init_364 : decode cX8_init 364 = .ok (.iconst 0, 1) := by decide +kernel
theorem dX8_init_365 : decode cX8_init 365 = .ok (.invokestatic 89, 3) := by decide +kernel
theorem dX8_init_368 : decode cX8_init 368 = .ok (.lastore, 1) := by decide +kernel
theorem dX8_init_369 : decode cX8_init 369 = .ok (.aload_n 0, 1) := by decide +kernel
theorem dX8_init_370 : decode cX8_init 370 = .ok (.getfield 34, 3) := by decide +kernel
theorem dX8_init_373 : decode cX8_init 373 = .ok (.bipush 8, 2) := by decide +kernel
theorem dX8_init_375 : decode cX8_init 375 = .ok (.bipush 116, 2) := by decide +kernel
theorem dX8_init_377 : decode cX8_init 377 = .ok (.bipush 97, 2) := by decide +kernel
theorem dX8_init_379 : decode cX8_init 379 = .ok (.bipush 107, 2) := by decide +kernel
theorem dX8_init_381 : decode cX8_init 381 = .ok (.bipush 101, 2) := by decide +kernel
theorem dX8_init_383 : decode cX8_init 383 = .ok (.iconst 0, 1) := by decide +kernel
theorem dX8_init_384 : decode cX8_init 384 = .ok (.iconst 0, 1) := by decide +kernel
theorem dX8_init_385 : decode cX8_init 385 = .ok (.iconst 0, 1) := by decide +kernel
theorem dX8_init_386 : decode cX8_init 386 = .ok (.invokestatic 89, 3) := by decide +kernel
theorem dX8_init_389 : decode cX8_init 389 = .ok (.lastore, 1) := by decide +kernel
theorem dX8_init_390 : decode cX8_init 390 = .ok (.aload_n 0, 1) := by decide +kernel
theorem dX8_init_391 : decode cX8_init 391 = .ok (.getfield 34, 3) := by decide +kernel
theorem dX8_init_394 : decode cX8_init 394 = .ok (.bipush 9, 2) := by decide +kernel
theorem dX8_init_396 : decode cX8_init 396 = .ok (.bipush 99, 2) := by decide +kernel
theorem dX8_init_398 : decode cX8_init 398 = .ok (.bipush 108, 2) := by decide +kernel
theorem dX8_init_400 : decode cX8_init 400 = .ok (.bipush 111, 2) := by decide +kernel
theorem dX8_init_402 : decode cX8_init 402 = .ok (.bipush 115, 2) := by decide +kernel
theorem dX8_init_404 : decode cX8_init 404 = .ok (.bipush 101, 2) := by decide +kernel
theorem dX8_init_406 : decode cX8_init 406 = .ok (.iconst 0, 1) := by decide +kernel
theorem dX8_init_407 : decode cX8_init 407 = .ok (.iconst 0, 1) := by decide +kernel
theorem dX8_init_408 : decode cX8_init 408 = .ok (.invokestatic 89, 3) := by decide +kernel
theorem dX8_init_411 : decode cX8_init 411 = .ok (.lastore, 1) := by decide +kernel
theorem dX8_init_412 : decode cX8_init 412 = .ok (.aload_n 0, 1) := by decide +kernel
theorem dX8_init_413 : decode cX8_init 413 = .ok (.getfield 34, 3) := by decide +kernel
theorem dX8_init_416 : decode cX8_init 416 = .ok (.bipush 10, 2) := by decide +kernel
theorem dX8_init_418 : decode cX8_init 418 = .ok (.bipush 114, 2) := by decide +kernel
theorem dX8_init_420 : decode cX8_init 420 = .ok (.bipush 101, 2) := by decide +kernel
theorem dX8_init_422 : decode cX8_init 422 = .ok (.bipush 115, 2) := by decide +kernel
theorem dX8_init_424 : decode cX8_init 424 = .ok (.bipush 116, 2) := by decide +kernel
theorem dX8_init_426 : decode cX8_init 426 = .ok (.bipush 111, 2) := by decide +kernel
theorem dX8_init_428 : decode cX8_init 428 = .ok (.bipush 114, 2) := by decide +kernel
theorem dX8_init_430 : decode cX8_init 430 = .ok (.bipush 101, 2) := by decide +kernel
theorem dX8_init_432 : decode cX8_init 432 = .ok (.invokestatic 89, 3) := by decide +kernel
theorem dX8_init_435 : decode cX8_init 435 = .ok (.lastore, 1) := by decide +kernel
theorem dX8_init_436 : decode cX8_init 436 = .ok (.aload_n 0, 1) := by decide +kernel
theorem dX8_init_437 : decode cX8_init 437 = .ok (.getfield 34, 3) := by decide +kernel
theorem dX8_init_440 : decode cX8_init 440 = .ok (.bipush 11, 2) := by decide +kernel
theorem dX8_init_442 : decode cX8_init 442 = .ok (.bipush 108, 2) := by decide +kernel
theorem dX8_init_444 : decode cX8_init 444 = .ok (.bipush 111, 2) := by decide +kernel
theorem dX8_init_446 : decode cX8_init 446 = .ok (.bipush 115, 2) := by decide +kernel
theorem dX8_init_448 : decode cX8_init 448 = .ok (.bipush 101, 2) := by decide +kernel
theorem dX8_init_450 : decode cX8_init 450 = .ok (.iconst 0, 1) := by decide +kernel
theorem dX8_init_451 : decode cX8_init 451 = .ok (.iconst 0, 1) := by decide +kernel
theorem dX8_init_452 : decode cX8_init 452 = .ok (.iconst 0, 1) := by decide +kernel
theorem dX8_init_453 : decode cX8_init 453 = .ok (.invokestatic 89, 3) := by decide +kernel
theorem dX8_init_456 : decode cX8_init 456 = .ok (.lastore, 1) := by decide +kernel
theorem dX8_init_457 : decode cX8_init 457 = .ok (.aload_n 0, 1) := by decide +kernel
theorem dX8_init_458 : decode cX8_init 458 = .ok (.getfield 34, 3) := by decide +kernel
theorem dX8_init_461 : decode cX8_init 461 = .ok (.bipush 12, 2) := by decide +kernel
theorem dX8_init_463 : decode cX8_init 463 = .ok (.bipush 100, 2) := by decide +kernel
theorem dX8_init_465 : decode cX8_init 465 = .ok (.bipush 111, 2) := by decide +kernel
theorem dX8_init_467 : decode cX8_init 467 = .ok (.iconst 0, 1) := by decide +kernel
theorem dX8_init_468 : decode cX8_init 468 = .ok (.iconst 0, 1) := by decide +kernel
theorem dX8_init_469 : decode cX8_init 469 = .ok (.iconst 0, 1) := by decide +kernel
theorem dX8_init_470 : decode cX8_init 470 = .ok (.iconst 0, 1) := by decide +kernel
theorem dX8_init_471 : decode cX8_init 471 = .ok (.iconst 0, 1) := by decide +kernel
theorem dX8_init_472 : decode cX8_init 472 = .ok (.invokestatic 89, 3) := by decide +kernel
theorem dX8_init_475 : decode cX8_init 475 = .ok (.lastore, 1) := by decide +kernel
theorem dX8_init_476 : decode cX8_init 476 = .ok (.aload_n 0, 1) := by decide +kernel
theorem dX8_init_477 : decode cX8_init 477 = .ok (.getfield 34, 3) := by decide +kernel
theorem dX8_init_480 : decode cX8_init 480 = .ok (.bipush 13, 2) := by decide +kernel
theorem dX8_init_482 : decode cX8_init 482 = .ok (.bipush 101, 2) := by decide +kernel
theorem dX8_init_484 : decode cX8_init 484 = .ok (.bipush 110, 2) := by decide +kernel
theorem dX8_init_486 : decode cX8_init 486 = .ok (.bipush 100, 2) := by decide +kernel
theorem dX8_init_488 : decode cX8_init 488 = .ok (.iconst 0, 1) := by decide +kernel
theorem dX8_init_489 : decode cX8_init 489 = .ok (.iconst 0, 1) := by decide +kernel
theorem dX8_init_490 : decode cX8_init 490 = .ok (.iconst 0, 1) := by decide +kernel
theorem dX8_init_491 : decode cX8_init 491 = .ok (.iconst 0, 1) := by decide +kernel
theorem dX8_init_492 : decode cX8_init 492 = .ok (.invokestatic 89, 3) := by decide +kernel
theorem dX8_init_495 : decode cX8_init 495 = .ok (.lastore, 1) := by decide +kernel
theorem dX8_init_496 : decode cX8_init 496 = .ok (.aload_n 0, 1) := by decide +kernel
theorem dX8_init_497 : decode cX8_init 497 = .ok (.getfield 34, 3) := by decide +kernel
theorem dX8_init_500 : decode cX8_init 500 = .ok (.bipush 14, 2) := by decide +kernel
theorem dX8_init_502 : decode cX8_init 502 = .ok (.bipush 105, 2) := by decide +kernel
theorem dX8_init_504 : decode cX8_init 504 = .ok (.iconst 0, 1) := by decide +kernel
theorem dX8_init_505 : decode cX8_init 505 = .ok (.iconst 0, 1) := by decide +kernel
theorem dX8_init_506 : decode cX8_init 506 = .ok (.iconst 0, 1) := by decide +kernel
theorem dX8_init_507 : decode cX8_init 507 = .ok (.iconst 0, 1) := by decide +kernel
theorem dX8_init_508 : decode cX8_init 508 = .ok (.iconst 0, 1) := by decide +kernel
theorem dX8_init_509 : decode cX8_init 509 = .ok (.iconst 0, 1) := by decide +kernel
theorem dX8_init_510 : decode cX8_init 510 = .ok (.invokestatic 89, 3) := by decide +kernel
theorem dX8_init_513 : decode cX8_init 513 = .ok (.lastore, 1) := by decide +kernel
theorem dX8_init_514 : decode cX8_init 514 = .ok (.aload_n 0, 1) := by decide +kernel
theorem dX8_init_515 : decode cX8_init 515 = .ok (.getfield 34, 3) := by decide +kernel
theorem dX8_init_518 : decode cX8_init 518 = .ok (.bipush 15, 2) := by decide +kernel
theorem dX8_init_520 : decode cX8_init 520 = .ok (.bipush 106, 2) := by decide +kernel
theorem dX8_init_522 : decode cX8_init 522 = .ok (.iconst 0, 1) := by decide +kernel
theorem dX8_init_523 : decode cX8_init 523 = .ok (.iconst 0, 1) := by decide +kernel
theorem dX8_init_524 : decode cX8_init 524 = .ok (.iconst 0, 1) := by decide +kernel
theorem dX8_init_525 : decode cX8_init 525 = .ok (.iconst 0, 1) := by decide +kernel
theorem dX8_init_526 : decode cX8_init 526 = .ok (.iconst 0, 1) := by decide +kernel
theorem dX8_init_527 : decode cX8_init 527 = .ok (.iconst 0, 1) := by decide +kernel
theorem dX8_init_528 : decode cX8_init 528 = .ok (.invokestatic 89, 3) := by decide +kernel
theorem dX8_init_531 : decode cX8_init 531 = .ok (.lastore, 1) := by decide +kernel
theorem dX8_init_532 : decode cX8_init 532 = .ok (.aload_n 0, 1) := by decide +kernel
theorem dX8_init_533 : decode cX8_init 533 = .ok (.getfield 34, 3) := by decide +kernel
theorem dX8_init_536 : decode cX8_init 536 = .ok (.bipush 16, 2) := by decide +kernel
theorem dX8_init_538 : decode cX8_init 538 = .ok (.bipush 112, 2) := by decide +kernel
theorem dX8_init_540 : decode cX8_init 540 = .ok (.bipush 108, 2) := by decide +kernel
theorem dX8_init_542 : decode cX8_init 542 = .ok (.bipush 97, 2) := by decide +kernel
theorem dX8_init_544 : decode cX8_init 544 = .ok (.bipush 99, 2) := by decide +kernel
theorem dX8_init_546 : decode cX8_init 546 = .ok (.bipush 101, 2) := by decide +kernel
theorem dX8_init_548 : decode cX8_init 548 = .ok (.iconst 0, 1) := by decide +kernel
theorem dX8_init_549 : decode cX8_init 549 = .ok (.iconst 0, 1) := by decide +kernel
theorem dX8_init_550 : decode cX8_init 550 = .ok (.invokestatic 89, 3) := by decide +kernel
theorem dX8_init_553 : decode cX8_init 553 = .ok (.lastore, 1) := by decide +kernel
theorem dX8_init_554 : decode cX8_init 554 = .ok (.aload_n 0, 1) := by decide +kernel
theorem dX8_init_555 : decode cX8_init 555 = .ok (.getfield 34, 3) := by decide +kernel
theorem dX8_init_558 : decode cX8_init 558 = .ok (.bipush 17, 2) := by decide +kernel
theorem dX8_init_560 : decode cX8_init 560 = .ok (.bipush 108, 2) := by decide +kernel
theorem dX8_init_562 : decode cX8_init 562 = .ok (.bipush 105, 2) := by decide +kernel
theorem dX8_init_564 : decode cX8_init 564 = .ok (.bipush 110, 2) := by decide +kernel
theorem dX8_init_566 : decode cX8_init 566 = .ok (.bipush 101, 2) := by decide +kernel
theorem dX8_init_568 : decode cX8_init 568 = .ok (.iconst 0, 1) := by decide +kernel
theorem dX8_init_569 : decode cX8_init 569 = .ok (.iconst 0, 1) := by decide +kernel
theorem dX8_init_570 : decode cX8_init 570 = .ok (.iconst 0, 1) := by decide +kernel
theorem dX8_init_571 : decode cX8_init 571 = .ok (.invokestatic 89, 3) := by decide +kernel
theorem dX8_init_574 : decode cX8_init 574 = .ok (.lastore, 1) := by decide +kernel
theorem dX8_init_575 : decode cX8_init 575 = .ok (.aload_n 0, 1) := by decide +kernel
theorem dX8_init_576 : decode cX8_init 576 = .ok (.getfield 34, 3) := by decide +kernel
theorem dX8_init_579 : decode cX8_init 579 = .ok (.bipush 18, 2) := by decide +kernel
theorem dX8_init_581 : decode cX8_init 581 = .ok (.bipush 99, 2) := by decide +kernel
theorem dX8_init_583 : decode cX8_init 583 = .ok (.bipush 111, 2) := by decide +kernel
theorem dX8_init_585 : decode cX8_init 585 = .ok (.bipush 112, 2) := by decide +kernel
theorem dX8_init_587 : decode cX8_init 587 = .ok (.bipush 105, 2) := by decide +kernel
theorem dX8_init_589 : decode cX8_init 589 = .ok (.bipush 101, 2) := by decide +kernel
theorem dX8_init_591 : decode cX8_init 591 = .ok (.bipush 115, 2) := by decide +kernel
theorem dX8_init_593 : decode cX8_init 593 = .ok (.iconst 0, 1) := by decide +kernel
theorem dX8_init_594 : decode cX8_init 594 = .ok (.invokestatic 89, 3) := by decide +kernel
theorem dX8_init_597 : decode cX8_init 597 = .ok (.lastore, 1) := by decide +kernel
theorem dX8_init_598 : decode cX8_init 598 = .ok (.aload_n 0, 1) := by decide +kernel
theorem dX8_init_599 : decode cX8_init 599 = .ok (.getfield 34, 3) := by decide +kernel
theorem dX8_init_602 : decode cX8_init 602 = .ok (.bipush 19, 2) := by decide +kernel
theorem dX8_init_604 : decode cX8_init 604 = .ok (.bipush 116, 2) := by decide +kernel
theorem dX8_init_606 : decode cX8_init 606 = .ok (.bipush 111, 2) := by decide +kernel
theorem dX8_init_608 : decode cX8_init 608 = .ok (.bipush 108, 2) := by decide +kernel
theorem dX8_init_610 : decode cX8_init 610 = .ok (.bipush 100, 2) := by decide +kernel
theorem dX8_init_612 : decode cX8_init 612 = .ok (.iconst 0, 1) := by decide +kernel
theorem dX8_init_613 : decode cX8_init 613 = .ok (.iconst 0, 1) := by decide +kernel
theorem dX8_init_614 : decode cX8_init 614 = .ok (.iconst 0, 1) := by decide +kernel
theorem dX8_init_615 : decode cX8_init 615 = .ok (.invokestatic 89, 3) := by decide +kernel
theorem dX8_init_618 : decode cX8_init 618 = .ok (.lastore, 1) := by decide +kernel
theorem dX8_init_619 : decode cX8_init 619 = .ok (.aload_n 0, 1) := by decide +kernel
theorem dX8_init_620 : decode cX8_init 620 = .ok (.iconst 4, 1) := by decide +kernel
theorem dX8_init_621 : decode cX8_init 621 = .ok (.iconst 4, 1) := by decide +kernel
theorem dX8_init_622 : decode cX8_init 622 = .ok (.invokevirtual 93, 3) := by decide +kernel
theorem dX8_init_625 : decode cX8_init 625 = .ok (.return_, 1) := by decide +kernel
theorem dX8_feed_0 : decode cX8_feed 0 = .ok (.aload_n 0, 1) := by decide +kernel
theorem dX8_feed_1 : decode cX8_feed 1 = .ok (.getfield 97, 3) := by decide +kernel
theorem dX8_feed_4 : decode cX8_feed 4 = .ok (.bipush 20, 2) := by decide +kernel
theorem dX8_feed_6 : decode cX8_feed 6 = .ok (.iadd, 1) := by decide +kernel
theorem dX8_feed_7 : decode cX8_feed 7 = .ok (.sipush 2000, 3) := by decide +kernel
theorem dX8_feed_10 : decode cX8_feed 10 = .ok (.if_icmp .le 5, 3) := by decide +kernel
theorem dX8_feed_13 : decode cX8_feed 13 = .ok (.iconst (-1), 1) := by decide +kernel
theorem dX8_feed_14 : decode cX8_feed 14 = .ok (.ireturn, 1) := by decide +kernel
theorem dX8_feed_15 : decode cX8_feed 15 = .ok (.aload_n 0, 1) := by decide +kernel
theorem dX8_feed_16 : decode cX8_feed 16 = .ok (.iload_n 1, 1) := by decide +kernel
theorem dX8_feed_17 : decode cX8_feed 17 = .ok (.invokevirtual 100, 3) := by decide +kernel
theorem dX8_feed_20 : decode cX8_feed 20 = .ok (.aload_n 0, 1) := by decide +kernel
theorem dX8_feed_21 : decode cX8_feed 21 = .ok (.iload_n 2, 1) := by decide +kernel
theorem dX8_feed_22 : decode cX8_feed 22 = .ok (.invokevirtual 100, 3) := by decide +kernel
theorem dX8_feed_25 : decode cX8_feed 25 = .ok (.aload_n 0, 1) := by decide +kernel
theorem dX8_feed_26 : decode cX8_feed 26 = .ok (.iload_n 3, 1) := by decide +kernel
theorem dX8_feed_27 : decode cX8_feed 27 = .ok (.invokevirtual 100, 3) := by decide +kernel
theorem dX8_feed_30 : decode cX8_feed 30 = .ok (.aload_n 0, 1) := by decide +kernel
theorem dX8_feed_31 : decode cX8_feed 31 = .ok (.iload 4, 2) := by decide +kernel
theorem dX8_feed_33 : decode cX8_feed 33 = .ok (.invokevirtual 100, 3) := by decide +kernel
theorem dX8_feed_36 : decode cX8_feed 36 = .ok (.aload_n 0, 1) := by decide +kernel
theorem dX8_feed_37 : decode cX8_feed 37 = .ok (.iload 5, 2) := by decide +kernel
theorem dX8_feed_39 : decode cX8_feed 39 = .ok (.invokevirtual 100, 3) := by decide +kernel
theorem dX8_feed_42 : decode cX8_feed 42 = .ok (.aload_n 0, 1) := by decide +kernel
theorem dX8_feed_43 : decode cX8_feed 43 = .ok (.getfield 97, 3) := by decide +kernel
theorem dX8_feed_46 : decode cX8_feed 46 = .ok (.ireturn, 1) := by decide +kernel
theorem dX8_lays_0 : decode cX8_lays 0 = .ok (.bipush 24, 2) := by decide +kernel
theorem dX8_lays_2 : decode cX8_lays 2 = .ok (.istore_n 2, 1) := by decide +kernel
theorem dX8_lays_3 : decode cX8_lays 3 = .ok (.iload_n 2, 1) := by decide +kernel
theorem dX8_lays_4 : decode cX8_lays 4 = .ok (.ifCond .lt 32, 3) := by decide +kernel
theorem dX8_lays_7 : decode cX8_lays 7 = .ok (.aload_n 0, 1) := by decide +kernel
theorem dX8_lays_8 : decode cX8_lays 8 = .ok (.getfield 13, 3) := by decide +kernel
theorem dX8_lays_11 : decode cX8_lays 11 = .ok (.aload_n 0, 1) := by decide +kernel
theorem dX8_lays_12 : decode cX8_lays 12 = .ok (.getfield 97, 3) := by decide +kernel
theorem dX8_lays_15 : decode cX8_lays 15 = .ok (.iload_n 1, 1) := by decide +kernel
theorem dX8_lays_16 : decode cX8_lays 16 = .ok (.iload_n 2, 1) := by decide +kernel
theorem dX8_lays_17 : decode cX8_lays 17 = .ok (.ishr, 1) := by decide +kernel
theorem dX8_lays_18 : decode cX8_lays 18 = .ok (.i2b, 1) := by decide +kernel
theorem dX8_lays_19 : decode cX8_lays 19 = .ok (.bastore, 1) := by decide +kernel
theorem dX8_lays_20 : decode cX8_lays 20 = .ok (.aload_n 0, 1) := by decide +kernel
theorem dX8_lays_21 : decode cX8_lays 21 = .ok (.dup, 1) := by decide +kernel
theorem dX8_lays_22 : decode cX8_lays 22 = .ok (.getfield 97, 3) := by decide +kernel
theorem dX8_lays_25 : decode cX8_lays 25 = .ok (.iconst 1, 1) := by decide +kernel
theorem dX8_lays_26 : decode cX8_lays 26 = .ok (.iadd, 1) := by decide +kernel
theorem dX8_lays_27 : decode cX8_lays 27 = .ok (.putfield 97, 3) := by decide +kernel
theorem dX8_lays_30 : decode cX8_lays 30 = .ok (.iinc 2 (-8), 3) := by decide +kernel
theorem dX8_lays_33 : decode cX8_lays 33 = .ok (.goto (-30), 3) := by decide +kernel
theorem dX8_lays_36 : decode cX8_lays 36 = .ok (.return_, 1) := by decide +kernel
theorem dX8_back_0 : decode cX8_back 0 = .ok (.iload_n 1, 1) := by decide +kernel
theorem dX8_back_1 : decode cX8_back 1 = .ok (.ifCond .lt 11, 3) := by decide +kernel
theorem dX8_back_4 : decode cX8_back 4 = .ok (.iload_n 1, 1) := by decide +kernel
theorem dX8_back_5 : decode cX8_back 5 = .ok (.aload_n 0, 1) := by decide +kernel
theorem dX8_back_6 : decode cX8_back 6 = .ok (.getfield 97, 3) := by decide +kernel
theorem dX8_back_9 : decode cX8_back 9 = .ok (.if_icmp .le 5, 3) := by decide +kernel
theorem dX8_back_12 : decode cX8_back 12 = .ok (.iconst (-1), 1) := by decide +kernel
theorem dX8_back_13 : decode cX8_back 13 = .ok (.ireturn, 1) := by decide +kernel
theorem dX8_back_14 : decode cX8_back 14 = .ok (.aload_n 0, 1) := by decide +kernel
theorem dX8_back_15 : decode cX8_back 15 = .ok (.dup, 1) := by decide +kernel
theorem dX8_back_16 : decode cX8_back 16 = .ok (.getfield 97, 3) := by decide +kernel
theorem dX8_back_19 : decode cX8_back 19 = .ok (.iload_n 1, 1) := by decide +kernel
theorem dX8_back_20 : decode cX8_back 20 = .ok (.isub, 1) := by decide +kernel
theorem dX8_back_21 : decode cX8_back 21 = .ok (.putfield 97, 3) := by decide +kernel
theorem dX8_back_24 : decode cX8_back 24 = .ok (.aload_n 0, 1) := by decide +kernel
theorem dX8_back_25 : decode cX8_back 25 = .ok (.getfield 97, 3) := by decide +kernel
theorem dX8_back_28 : decode cX8_back 28 = .ok (.ireturn, 1) := by decide +kernel
theorem dX8_byteAt_0 : decode cX8_byteAt 0 = .ok (.iload_n 1, 1) := by decide +kernel
theorem dX8_byteAt_1 : decode cX8_byteAt 1 = .ok (.aload_n 0, 1) := by decide +kernel
theorem dX8_byteAt_2 : decode cX8_byteAt 2 = .ok (.getfield 104, 3) := by decide +kernel
theorem dX8_byteAt_5 : decode cX8_byteAt 5 = .ok (.if_icmp .ge 16, 3) := by decide +kernel
theorem dX8_byteAt_8 : decode cX8_byteAt 8 = .ok (.aload_n 0, 1) := by decide +kernel
theorem dX8_byteAt_9 : decode cX8_byteAt 9 = .ok (.getfield 17, 3) := by decide +kernel
theorem dX8_byteAt_12 : decode cX8_byteAt 12 = .ok (.iload_n 1, 1) := by decide +kernel
theorem dX8_byteAt_13 : decode cX8_byteAt 13 = .ok (.baload, 1) := by decide +kernel
theorem dX8_byteAt_14 : decode cX8_byteAt 14 = .ok (.sipush 255, 3) := by decide +kernel
theorem dX8_byteAt_17 : decode cX8_byteAt 17 = .ok (.iand, 1) := by decide +kernel
theorem dX8_byteAt_18 : decode cX8_byteAt 18 = .ok (.goto 4, 3) := by decide +kernel
theorem dX8_byteAt_21 : decode cX8_byteAt 21 = .ok (.iconst 0, 1) := by decide +kernel
theorem dX8_byteAt_22 : decode cX8_byteAt 22 = .ok (.ireturn, 1) := by decide +kernel
theorem dX8_isDigit_0 : decode cX8_isDigit 0 = .ok (.iload_n 0, 1) := by decide +kernel
theorem dX8_isDigit_1 : decode cX8_isDigit 1 = .ok (.bipush 48, 2) := by decide +kernel
theorem dX8_isDigit_3 : decode cX8_isDigit 3 = .ok (.if_icmp .lt 13, 3) := by decide +kernel
theorem dX8_isDigit_6 : decode cX8_isDigit 6 = .ok (.iload_n 0, 1) := by decide +kernel
theorem dX8_isDigit_7 : decode cX8_isDigit 7 = .ok (.bipush 57, 2) := by decide +kernel
theorem dX8_isDigit_9 : decode cX8_isDigit 9 = .ok (.if_icmp .gt 7, 3) := by decide +kernel
theorem dX8_isDigit_12 : decode cX8_isDigit 12 = .ok (.iconst 1, 1) := by decide +kernel
theorem dX8_isDigit_13 : decode cX8_isDigit 13 = .ok (.goto 4, 3) := by decide +kernel
theorem dX8_isDigit_16 : decode cX8_isDigit 16 = .ok (.iconst 0, 1) := by decide +kernel
theorem dX8_isDigit_17 : decode cX8_isDigit 17 = .ok (.ireturn, 1) := by decide +kernel
theorem dX8_isLetter_0 : decode cX8_isLetter 0 = .ok (.iload_n 0, 1) := by decide +kernel
theorem dX8_isLetter_1 : decode cX8_isLetter 1 = .ok (.bipush 97, 2) := by decide +kernel
theorem dX8_isLetter_3 : decode cX8_isLetter 3 = .ok (.if_icmp .lt 13, 3) := by decide +kernel
theorem dX8_isLetter_6 : decode cX8_isLetter 6 = .ok (.iload_n 0, 1) := by decide +kernel
theorem dX8_isLetter_7 : decode cX8_isLetter 7 = .ok (.bipush 122, 2) := by decide +kernel
theorem dX8_isLetter_9 : decode cX8_isLetter 9 = .ok (.if_icmp .gt 7, 3) := by decide +kernel
theorem dX8_isLetter_12 : decode cX8_isLetter 12 = .ok (.iconst 1, 1) := by decide +kernel
theorem dX8_isLetter_13 : decode cX8_isLetter 13 = .ok (.goto 4, 3) := by decide +kernel
theorem dX8_isLetter_16 : decode cX8_isLetter 16 = .ok (.iconst 0, 1) := by decide +kernel
theorem dX8_isLetter_17 : decode cX8_isLetter 17 = .ok (.ireturn, 1) := by decide +kernel
theorem dX8_appends_0 : decode cX8_appends 0 = .ok (.iload_n 2, 1) := by decide +kernel
theorem dX8_appends_1 : decode cX8_appends 1 = .ok (.ifCond .ne 7, 3) := by decide +kernel
theorem dX8_appends_4 : decode cX8_appends 4 = .ok (.lload_n 0, 1) := by decide +kernel
theorem dX8_appends_5 : decode cX8_appends 5 = .ok (.goto 16, 3) := by decide +kernel
theorem dX8_appends_8 : decode cX8_appends 8 = .ok (.ldc2_w 107, 3) := by decide +kernel
theorem dX8_appends_11 : decode cX8_appends 11 = .ok (.lload_n 0, 1) := by decide +kernel
theorem dX8_appends_12 : decode cX8_appends 12 = .ok (.lmul, 1) := by decide +kernel
theorem dX8_appends_13 : decode cX8_appends 13 = .ok (.iload_n 2, 1) := by decide +kernel
theorem dX8_appends_14 : decode cX8_appends 14 = .ok (.bipush 97, 2) := by decide +kernel
theorem dX8_appends_16 : decode cX8_appends 16 = .ok (.isub, 1) := by decide +kernel
theorem dX8_appends_17 : decode cX8_appends 17 = .ok (.iconst 1, 1) := by decide +kernel
theorem dX8_appends_18 : decode cX8_appends 18 = .ok (.iadd, 1) := by decide +kernel
theorem dX8_appends_19 : decode cX8_appends 19 = .ok (.i2l, 1) := by decide +kernel
theorem dX8_appends_20 : decode cX8_appends 20 = .ok (.ladd, 1) := by decide +kernel
theorem dX8_appends_21 : decode cX8_appends 21 = .ok (.lreturn, 1) := by decide +kernel
theorem dX8_letters_0 : decode cX8_letters 0 = .ok (.lconst 0, 1) := by decide +kernel
theorem dX8_letters_1 : decode cX8_letters 1 = .ok (.iload_n 0, 1) := by decide +kernel
theorem dX8_letters_2 : decode cX8_letters 2 = .ok (.invokestatic 109, 3) := by decide +kernel
theorem dX8_letters_5 : decode cX8_letters 5 = .ok (.iload_n 1, 1) := by decide +kernel
theorem dX8_letters_6 : decode cX8_letters 6 = .ok (.invokestatic 109, 3) := by decide +kernel
theorem dX8_letters_9 : decode cX8_letters 9 = .ok (.iload_n 2, 1) := by decide +kernel
theorem dX8_letters_10 : decode cX8_letters 10 = .ok (.invokestatic 109, 3) := by decide +kernel
theorem dX8_letters_13 : decode cX8_letters 13 = .ok (.iload_n 3, 1) := by decide +kernel
theorem dX8_letters_14 : decode cX8_letters 14 = .ok (.invokestatic 109, 3) := by decide +kernel
theorem dX8_letters_17 : decode cX8_letters 17 = .ok (.iload 4, 2) := by decide +kernel
theorem dX8_letters_19 : decode cX8_letters 19 = .ok (.invokestatic 109, 3) := by decide +kernel
theorem dX8_letters_22 : decode cX8_letters 22 = .ok (.iload 5, 2) := by decide +kernel
theorem dX8_letters_24 : decode cX8_letters 24 = .ok (.invokestatic 109, 3) := by decide +kernel
theorem dX8_letters_27 : decode cX8_letters 27 = .ok (.iload 6, 2) := by decide +kernel
theorem dX8_letters_29 : decode cX8_letters 29 = .ok (.invokestatic 109, 3) := by decide +kernel
theorem dX8_letters_32 : decode cX8_letters 32 = .ok (.lreturn, 1) := by decide +kernel
theorem dX8_token_0 : decode cX8_token 0 = .ok (.aload_n 0, 1) := by decide +kernel
theorem dX8_token_1 : decode cX8_token 1 = .ok (.getfield 20, 3) := by decide +kernel
theorem dX8_token_4 : decode cX8_token 4 = .ok (.aload_n 0, 1) := by decide +kernel
theorem dX8_token_5 : decode cX8_token 5 = .ok (.getfield 113, 3) := by decide +kernel
theorem dX8_token_8 : decode cX8_token 8 = .ok (.iload_n 1, 1) := by decide +kernel
theorem dX8_token_9 : decode cX8_token 9 = .ok (.iastore, 1) := by decide +kernel
theorem dX8_token_10 : decode cX8_token 10 = .ok (.aload_n 0, 1) := by decide +kernel
theorem dX8_token_11 : decode cX8_token 11 = .ok (.getfield 24, 3) := by decide +kernel
theorem dX8_token_14 : decode cX8_token 14 = .ok (.aload_n 0, 1) := by decide +kernel
theorem dX8_token_15 : decode cX8_token 15 = .ok (.getfield 113, 3) := by decide +kernel
theorem dX8_token_18 : decode cX8_token 18 = .ok (.iload_n 2, 1) := by decide +kernel
theorem dX8_token_19 : decode cX8_token 19 = .ok (.iastore, 1) := by decide +kernel
theorem dX8_token_20 : decode cX8_token 20 = .ok (.aload_n 0, 1) := by decide +kernel
theorem dX8_token_21 : decode cX8_token 21 = .ok (.getfield 27, 3) := by decide +kernel
theorem dX8_token_24 : decode cX8_token 24 = .ok (.aload_n 0, 1) := by decide +kernel
theorem dX8_token_25 : decode cX8_token 25 = .ok (.getfield 113, 3) := by decide +kernel
theorem dX8_token_28 : decode cX8_token 28 = .ok (.iload_n 3, 1) := by decide +kernel
theorem dX8_token_29 : decode cX8_token 29 = .ok (.iastore, 1) := by decide +kernel
theorem dX8_token_30 : decode cX8_token 30 = .ok (.aload_n 0, 1) := by decide +kernel
theorem dX8_token_31 : decode cX8_token 31 = .ok (.getfield 30, 3) := by decide +kernel
theorem dX8_token_34 : decode cX8_token 34 = .ok (.aload_n 0, 1) := by decide +kernel
theorem dX8_token_35 : decode cX8_token 35 = .ok (.getfield 113, 3) := by decide +kernel
theorem dX8_token_38 : decode cX8_token 38 = .ok (.lload 4, 2) := by decide +kernel
theorem dX8_token_40 : decode cX8_token 40 = .ok (.lastore, 1) := by decide +kernel
theorem dX8_token_41 : decode cX8_token 41 = .ok (.aload_n 0, 1) := by decide +kernel
theorem dX8_token_42 : decode cX8_token 42 = .ok (.dup, 1) := by decide +kernel
theorem dX8_token_43 : decode cX8_token 43 = .ok (.getfield 113, 3) := by decide +kernel
theorem dX8_token_46 : decode cX8_token 46 = .ok (.iconst 1, 1) := by decide +kernel
theorem dX8_token_47 : decode cX8_token 47 = .ok (.iadd, 1) := by decide +kernel
theorem dX8_token_48 : decode cX8_token 48 = .ok (.putfield 113, 3) := by decide +kernel
theorem dX8_token_51 : decode cX8_token 51 = .ok (.return_, 1) := by decide +kernel
theorem dX8_cutsUp_0 : decode cX8_cutsUp 0 = .ok (.aload_n 0, 1) := by decide +kernel
theorem dX8_cutsUp_1 : decode cX8_cutsUp 1 = .ok (.iconst 0, 1) := by decide +kernel
theorem dX8_cutsUp_2 : decode cX8_cutsUp 2 = .ok (.putfield 113, 3) := by decide +kernel
theorem dX8_cutsUp_5 : decode cX8_cutsUp 5 = .ok (.iconst 0, 1) := by decide +kernel
theorem dX8_cutsUp_6 : decode cX8_cutsUp 6 = .ok (.istore_n 1, 1) := by decide +kernel
theorem dX8_cutsUp_7 : decode cX8_cutsUp 7 = .ok (.aload_n 0, 1) := by decide +kernel
theorem dX8_cutsUp_8 : decode cX8_cutsUp 8 = .ok (.getfield 113, 3) := by decide +kernel
theorem dX8_cutsUp_11 : decode cX8_cutsUp 11 = .ok (.sipush 400, 3) := by decide +kernel
theorem dX8_cutsUp_14 : decode cX8_cutsUp 14 = .ok (.if_icmp .gt 280, 3) := by decide +kernel
theorem dX8_cutsUp_17 : decode cX8_cutsUp 17 = .ok (.aload_n 0, 1) := by decide +kernel
theorem dX8_cutsUp_18 : decode cX8_cutsUp 18 = .ok (.iload_n 1, 1) := by decide +kernel
theorem dX8_cutsUp_19 : decode cX8_cutsUp 19 = .ok (.invokevirtual 116, 3) := by decide +kernel
theorem dX8_cutsUp_22 : decode cX8_cutsUp 22 = .ok (.istore_n 2, 1) := by decide +kernel
theorem dX8_cutsUp_23 : decode cX8_cutsUp 23 = .ok (.iload_n 1, 1) := by decide +kernel
theorem dX8_cutsUp_24 : decode cX8_cutsUp 24 = .ok (.aload_n 0, 1) := by decide +kernel
theorem dX8_cutsUp_25 : decode cX8_cutsUp 25 = .ok (.getfield 104, 3) := by decide +kernel
theorem dX8_cutsUp_28 : decode cX8_cutsUp 28 = .ok (.if_icmp .lt 15, 3) := by decide +kernel
theorem dX8_cutsUp_31 : decode cX8_cutsUp 31 = .ok (.aload_n 0, 1) := by decide +kernel
theorem dX8_cutsUp_32 : decode cX8_cutsUp 32 = .ok (.iconst 0, 1) := by decide +kernel
theorem dX8_cutsUp_33 : decode cX8_cutsUp 33 = .ok (.aload_n 0, 1) := by decide +kernel
theorem dX8_cutsUp_34 : decode cX8_cutsUp 34 = .ok (.getfield 104, 3) := by decide +kernel
theorem dX8_cutsUp_37 : decode cX8_cutsUp 37 = .ok (.iconst 0, 1) := by decide +kernel
theorem dX8_cutsUp_38 : decode cX8_cutsUp 38 = .ok (.lconst 0, 1) := by decide +kernel
theorem dX8_cutsUp_39 : decode cX8_cutsUp 39 = .ok (.invokevirtual 120, 3) := by decide +kernel
theorem dX8_cutsUp_42 : decode cX8_cutsUp 42 = .ok (.return_, 1) := by decide +kernel
theorem dX8_cutsUp_43 : decode cX8_cutsUp 43 = .ok (.iload_n 2, 1) := by decide +kernel
theorem dX8_cutsUp_44 : decode cX8_cutsUp 44 = .ok (.bipush 9, 2) := by decide +kernel
theorem dX8_cutsUp_46 : decode cX8_cutsUp 46 = .ok (.if_icmp .eq 21, 3) := by decide +kernel
theorem dX8_cutsUp_49 : decode cX8_cutsUp 49 = .ok (.iload_n 2, 1) := by decide +kernel
theorem dX8_cutsUp_50 : decode cX8_cutsUp 50 = .ok (.bipush 10, 2) := by decide +kernel
theorem dX8_cutsUp_52 : decode cX8_cutsUp 52 = .ok (.if_icmp .eq 15, 3) := by decide +kernel
theorem dX8_cutsUp_55 : decode cX8_cutsUp 55 = .ok (.iload_n 2, 1) := by decide +kernel
theorem dX8_cutsUp_56 : decode cX8_cutsUp 56 = .ok (.bipush 13, 2) := by decide +kernel
theorem dX8_cutsUp_58 : decode cX8_cutsUp 58 = .ok (.if_icmp .eq 9, 3) := by decide +kernel
theorem dX8_cutsUp_61 : decode cX8_cutsUp 61 = .ok (.iload_n 2, 1) := by decide +kernel
theorem dX8_cutsUp_62 : decode cX8_cutsUp 62 = .ok (.bipush 32, 2) := by decide +kernel
theorem dX8_cutsUp_64 : decode cX8_cutsUp 64 = .ok (.if_icmp .ne 9, 3) := by decide +kernel
theorem dX8_cutsUp_67 : decode cX8_cutsUp 67 = .ok (.iinc 1 1, 3) := by decide +kernel
theorem dX8_cutsUp_70 : decode cX8_cutsUp 70 = .ok (.goto 221, 3) := by decide +kernel
theorem dX8_cutsUp_73 : decode cX8_cutsUp 73 = .ok (.iload_n 2, 1) := by decide +kernel
theorem dX8_cutsUp_74 : decode cX8_cutsUp 74 = .ok (.invokestatic 124, 3) := by decide +kernel
theorem dX8_cutsUp_77 : decode cX8_cutsUp 77 = .ok (.ifCond .eq 119, 3) := by decide +kernel
theorem dX8_cutsUp_80 : decode cX8_cutsUp 80 = .ok (.iconst 0, 1) := by decide +kernel
theorem dX8_cutsUp_81 : decode cX8_cutsUp 81 = .ok (.istore_n 3, 1) := by decide +kernel
theorem dX8_cutsUp_82 : decode cX8_cutsUp 82 = .ok (.lconst 0, 1) := by decide +kernel
theorem dX8_cutsUp_83 : decode cX8_cutsUp 83 = .ok (.lstore 4, 2) := by decide +kernel
theorem dX8_cutsUp_85 : decode cX8_cutsUp 85 = .ok (.aload_n 0, 1) := by decide +kernel
theorem dX8_cutsUp_86 : decode cX8_cutsUp 86 = .ok (.iload_n 1, 1) := by decide +kernel
theorem dX8_cutsUp_87 : decode cX8_cutsUp 87 = .ok (.iload_n 3, 1) := by decide +kernel
theorem dX8_cutsUp_88 : decode cX8_cutsUp 88 = .ok (.iadd, 1) := by decide +kernel
theorem dX8_cutsUp_89 : decode cX8_cutsUp 89 = .ok (.invokevirtual 116, 3) := by decide +kernel
theorem dX8_cutsUp_92 : decode cX8_cutsUp 92 = .ok (.invokestatic 124, 3) := by decide +kernel
theorem dX8_cutsUp_95 : decode cX8_cutsUp 95 = .ok (.ifCond .eq 29, 3) := by decide +kernel
theorem dX8_cutsUp_98 : decode cX8_cutsUp 98 = .ok (.iload_n 3, 1) := by decide +kernel
theorem dX8_cutsUp_99 : decode cX8_cutsUp 99 = .ok (.bipush 8, 2) := by decide +kernel
theorem dX8_cutsUp_101 : decode cX8_cutsUp 101 = .ok (.if_icmp .ge 17, 3) := by decide +kernel
theorem dX8_cutsUp_104 : decode cX8_cutsUp 104 = .ok (.lload 4, 2) := by decide +kernel
theorem dX8_cutsUp_106 : decode cX8_cutsUp 106 = .ok (.aload_n 0, 1) := by decide +kernel
theorem dX8_cutsUp_107 : decode cX8_cutsUp 107 = .ok (.iload_n 1, 1) := by decide +kernel
theorem dX8_cutsUp_108 : decode cX8_cutsUp 108 = .ok (.iload_n 3, 1) := by decide +kernel
theorem dX8_cutsUp_109 : decode cX8_cutsUp 109 = .ok (.iadd, 1) := by decide +kernel
theorem dX8_cutsUp_110 : decode cX8_cutsUp 110 = .ok (.invokevirtual 116, 3) := by decide +kernel
theorem dX8_cutsUp_113 : decode cX8_cutsUp 113 = .ok (.invokestatic 109, 3) := by decide +kernel
theorem dX8_cutsUp_116 : decode cX8_cutsUp 116 = .ok (.lstore 4, 2) := by decide +kernel
theorem dX8_cutsUp_118 : decode cX8_cutsUp 118 = .ok (.iinc 3 1, 3) := by decide +kernel
theorem dX8_cutsUp_121 : decode cX8_cutsUp 121 = .ok (.goto (-36), 3) := by decide +kernel
theorem dX8_cutsUp_124 : decode cX8_cutsUp 124 = .ok (.iload_n 3, 1) := by decide +kernel
theorem dX8_cutsUp_125 : decode cX8_cutsUp 125 = .ok (.bipush 8, 2) := by decide +kernel
theorem dX8_cutsUp_127 : decode cX8_cutsUp 127 = .ok (.if_icmp .le 7, 3) := by decide +kernel
theorem dX8_cutsUp_130 : decode cX8_cutsUp 130 = .ok (.iconst 3, 1) := by decide +kernel
theorem dX8_cutsUp_131 : decode cX8_cutsUp 131 = .ok (.goto 4, 3) := by decide +kernel
theorem dX8_cutsUp_134 : decode cX8_cutsUp 134 = .ok (.iconst 1, 1) := by decide +kernel
theorem dX8_cutsUp_135 : decode cX8_cutsUp 135 = .ok (.istore 6, 2) := by decide +kernel
theorem dX8_cutsUp_137 : decode cX8_cutsUp 137 = .ok (.iload_n 3, 1) := by decide +kernel
theorem dX8_cutsUp_138 : decode cX8_cutsUp 138 = .ok (.bipush 8, 2) := by decide +kernel
theorem dX8_cutsUp_140 : decode cX8_cutsUp 140 = .ok (.if_icmp .gt 39, 3) := by decide +kernel
theorem dX8_cutsUp_143 : decode cX8_cutsUp 143 = .ok (.iconst 0, 1) := by decide +kernel
theorem dX8_cutsUp_144 : decode cX8_cutsUp 144 = .ok (.istore 7, 2) := by decide +kernel
theorem dX8_cutsUp_146 : decode cX8_cutsUp 146 = .ok (.iload 7, 2) := by decide +kernel
theorem dX8_cutsUp_148 : decode cX8_cutsUp 148 = .ok (.bipush 20, 2) := by decide +kernel
theorem dX8_cutsUp_150 : decode cX8_cutsUp 150 = .ok (.if_icmp .ge 29, 3) := by decide +kernel
theorem dX8_cutsUp_153 : decode cX8_cutsUp 153 = .ok (.aload_n 0, 1) := by decide +kernel
theorem dX8_cutsUp_154 : decode cX8_cutsUp 154 = .ok (.getfield 34, 3) := by decide +kernel
theorem dX8_cutsUp_157 : decode cX8_cutsUp 157 = .ok (.iload 7, 2) := by decide +kernel
theorem dX8_cutsUp_159 : decode cX8_cutsUp 159 = .ok (.laload, 1) := by decide +kernel
theorem dX8_cutsUp_160 : decode cX8_cutsUp 160 = .ok (.lload 4, 2) := by decide +kernel
theorem dX8_cutsUp_162 : decode cX8_cutsUp 162 = .ok (.lcmp, 1) := by decide +kernel
theorem dX8_cutsUp_163 : decode cX8_cutsUp 163 = .ok (.ifCond .ne 10, 3) := by decide +kernel
theorem dX8_cutsUp_166 : decode cX8_cutsUp 166 = .ok (.bipush 20, 2) := by decide +kernel
theorem dX8_cutsUp_168 : decode cX8_cutsUp 168 = .ok (.iload 7, 2) := by decide +kernel
theorem dX8_cutsUp_170 : decode cX8_cutsUp 170 = .ok (.iadd, 1) := by decide +kernel
theorem dX8_cutsUp_171 : decode cX8_cutsUp 171 = .ok (.istore 6, 2) := by decide +kernel
theorem dX8_cutsUp_173 : decode cX8_cutsUp 173 = .ok (.iinc 7 1, 3) := by decide +kernel
theorem dX8_cutsUp_176 : decode cX8_cutsUp 176 = .ok (.goto (-30), 3) := by decide +kernel
theorem dX8_cutsUp_179 : decode cX8_cutsUp 179 = .ok (.aload_n 0, 1) := by decide +kernel
theorem dX8_cutsUp_180 : decode cX8_cutsUp 180 = .ok (.iload 6, 2) := by decide +kernel
theorem dX8_cutsUp_182 : decode cX8_cutsUp 182 = .ok (.iload_n 1, 1) := by decide +kernel
theorem dX8_cutsUp_183 : decode cX8_cutsUp 183 = .ok (.iconst 0, 1) := by decide +kernel
theorem dX8_cutsUp_184 : decode cX8_cutsUp 184 = .ok (.lload 4, 2) := by decide +kernel
theorem dX8_cutsUp_186 : decode cX8_cutsUp 186 = .ok (.invokevirtual 120, 3) := by decide +kernel
theorem dX8_cutsUp_189 : decode cX8_cutsUp 189 = .ok (.iload_n 1, 1) := by decide +kernel
theorem dX8_cutsUp_190 : decode cX8_cutsUp 190 = .ok (.iload_n 3, 1) := by decide +kernel
theorem dX8_cutsUp_191 : decode cX8_cutsUp 191 = .ok (.iadd, 1) := by decide +kernel
theorem dX8_cutsUp_192 : decode cX8_cutsUp 192 = .ok (.istore_n 1, 1) := by decide +kernel
theorem dX8_cutsUp_193 : decode cX8_cutsUp 193 = .ok (.goto 98, 3) := by decide +kernel
theorem dX8_cutsUp_196 : decode cX8_cutsUp 196 = .ok (.iload_n 2, 1) := by decide +kernel
theorem dX8_cutsUp_197 : decode cX8_cutsUp 197 = .ok (.invokestatic 128, 3) := by decide +kernel
theorem dX8_cutsUp_200 : decode cX8_cutsUp 200 = .ok (.ifCond .eq 75, 3) := by decide +kernel
theorem dX8_cutsUp_203 : decode cX8_cutsUp 203 = .ok (.iconst 0, 1) := by decide +kernel
theorem dX8_cutsUp_204 : decode cX8_cutsUp 204 = .ok (.istore_n 3, 1) := by decide +kernel
theorem dX8_cutsUp_205 : decode cX8_cutsUp 205 = .ok (.iconst 0, 1) := by decide +kernel
theorem dX8_cutsUp_206 : decode cX8_cutsUp 206 = .ok (.istore 4, 2) := by decide +kernel
theorem dX8_cutsUp_208 : decode cX8_cutsUp 208 = .ok (.aload_n 0, 1) := by decide +kernel
theorem dX8_cutsUp_209 : decode cX8_cutsUp 209 = .ok (.iload_n 1, 1) := by decide +kernel
theorem dX8_cutsUp_210 : decode cX8_cutsUp 210 = .ok (.iload_n 3, 1) := by decide +kernel
theorem dX8_cutsUp_211 : decode cX8_cutsUp 211 = .ok (.iadd, 1) := by decide +kernel
theorem dX8_cutsUp_212 : decode cX8_cutsUp 212 = .ok (.invokevirtual 116, 3) := by decide +kernel
theorem dX8_cutsUp_215 : decode cX8_cutsUp 215 = .ok (.invokestatic 128, 3) := by decide +kernel
theorem dX8_cutsUp_218 : decode cX8_cutsUp 218 = .ok (.ifCond .eq 32, 3) := by decide +kernel
theorem dX8_cutsUp_221 : decode cX8_cutsUp 221 = .ok (.iload_n 3, 1) := by decide +kernel
theorem dX8_cutsUp_222 : decode cX8_cutsUp 222 = .ok (.iconst 4, 1) := by decide +kernel
theorem dX8_cutsUp_223 : decode cX8_cutsUp 223 = .ok (.if_icmp .ge 21, 3) := by decide +kernel
theorem dX8_cutsUp_226 : decode cX8_cutsUp 226 = .ok (.bipush 10, 2) := by decide +kernel
theorem dX8_cutsUp_228 : decode cX8_cutsUp 228 = .ok (.iload 4, 2) := by decide +kernel
theorem dX8_cutsUp_230 : decode cX8_cutsUp 230 = .ok (.imul, 1) := by decide +kernel
theorem dX8_cutsUp_231 : decode cX8_cutsUp 231 = .ok (.aload_n 0, 1) := by decide +kernel
theorem dX8_cutsUp_232 : decode cX8_cutsUp 232 = .ok (.iload_n 1, 1) := by decide +kernel
theorem dX8_cutsUp_233 : decode cX8_cutsUp 233 = .ok (.iload_n 3, 1) := by decide +kernel
theorem dX8_cutsUp_234 : decode cX8_cutsUp 234 = .ok (.iadd, 1) := by decide +kernel
theorem dX8_cutsUp_235 : decode cX8_cutsUp 235 = .ok (.invokevirtual 116, 3) := by decide +kernel
theorem dX8_cutsUp_238 : decode cX8_cutsUp 238 = .ok (.iadd, 1) := by decide +kernel
theorem dX8_cutsUp_239 : decode cX8_cutsUp 239 = .ok (.bipush 48, 2) := by decide +kernel
theorem dX8_cutsUp_241 : decode cX8_cutsUp 241 = .ok (.isub, 1) := by decide +kernel
theorem dX8_cutsUp_242 : decode cX8_cutsUp 242 = .ok (.istore 4, 2) := by decide +kernel
theorem dX8_cutsUp_244 : decode cX8_cutsUp 244 = .ok (.iinc 3 1, 3) := by decide +kernel
theorem dX8_cutsUp_247 : decode cX8_cutsUp 247 = .ok (.goto (-39), 3) := by decide +kernel
theorem dX8_cutsUp_250 : decode cX8_cutsUp 250 = .ok (.aload_n 0, 1) := by decide +kernel
theorem dX8_cutsUp_251 : decode cX8_cutsUp 251 = .ok (.iload_n 3, 1) := by decide +kernel
theorem dX8_cutsUp_252 : decode cX8_cutsUp 252 = .ok (.iconst 4, 1) := by decide +kernel
theorem dX8_cutsUp_253 : decode cX8_cutsUp 253 = .ok (.if_icmp .le 7, 3) := by decide +kernel
theorem dX8_cutsUp_256 : decode cX8_cutsUp 256 = .ok (.iconst 3, 1) := by decide +kernel
theorem dX8_cutsUp_257 : decode cX8_cutsUp 257 = .ok (.goto 4, 3) := by decide +kernel
theorem dX8_cutsUp_260 : decode cX8_cutsUp 260 = .ok (.iconst 2, 1) := by decide +kernel
theorem dX8_cutsUp_261 : decode cX8_cutsUp 261 = .ok (.iload_n 1, 1) := by decide +kernel
theorem dX8_cutsUp_262 : decode cX8_cutsUp 262 = .ok (.iload 4, 2) := by decide +kernel
theorem dX8_cutsUp_264 : decode cX8_cutsUp 264 = .ok (.lconst 0, 1) := by decide +kernel
theorem dX8_cutsUp_265 : decode cX8_cutsUp 265 = .ok (.invokevirtual 120, 3) := by decide +kernel
theorem dX8_cutsUp_268 : decode cX8_cutsUp 268 = .ok (.iload_n 1, 1) := by decide +kernel
theorem dX8_cutsUp_269 : decode cX8_cutsUp 269 = .ok (.iload_n 3, 1) := by decide +kernel
theorem dX8_cutsUp_270 : decode cX8_cutsUp 270 = .ok (.iadd, 1) := by decide +kernel
theorem dX8_cutsUp_271 : decode cX8_cutsUp 271 = .ok (.istore_n 1, 1) := by decide +kernel
theorem dX8_cutsUp_272 : decode cX8_cutsUp 272 = .ok (.goto 19, 3) := by decide +kernel
theorem dX8_cutsUp_275 : decode cX8_cutsUp 275 = .ok (.iload_n 1, 1) := by decide +kernel
theorem dX8_cutsUp_276 : decode cX8_cutsUp 276 = .ok (.aload_n 0, 1) := by decide +kernel
theorem dX8_cutsUp_277 : decode cX8_cutsUp 277 = .ok (.iload_n 1, 1) := by decide +kernel
theorem dX8_cutsUp_278 : decode cX8_cutsUp 278 = .ok (.iload_n 2, 1) := by decide +kernel
theorem dX8_cutsUp_279 : decode cX8_cutsUp 279 = .ok (.aload_n 0, 1) := by decide +kernel
theorem dX8_cutsUp_280 : decode cX8_cutsUp 280 = .ok (.iload_n 1, 1) := by decide +kernel
theorem dX8_cutsUp_281 : decode cX8_cutsUp 281 = .ok (.iconst 1, 1) := by decide +kernel
theorem dX8_cutsUp_282 : decode cX8_cutsUp 282 = .ok (.iadd, 1) := by decide +kernel
theorem dX8_cutsUp_283 : decode cX8_cutsUp 283 = .ok (.invokevirtual 116, 3) := by decide +kernel
theorem dX8_cutsUp_286 : decode cX8_cutsUp 286 = .ok (.invokevirtual 131, 3) := by decide +kernel
theorem dX8_cutsUp_289 : decode cX8_cutsUp 289 = .ok (.iadd, 1) := by decide +kernel
theorem dX8_cutsUp_290 : decode cX8_cutsUp 290 = .ok (.istore_n 1, 1) := by decide +kernel
theorem dX8_cutsUp_291 : decode cX8_cutsUp 291 = .ok (.goto (-284), 3) := by decide +kernel
theorem dX8_cutsUp_294 : decode cX8_cutsUp 294 = .ok (.return_, 1) := by decide +kernel
theorem dX8_sign_0 : decode cX8_sign 0 = .ok (.iload_n 2, 1) := by decide +kernel
theorem dX8_sign_1 : decode cX8_sign 1 = .ok (.bipush 59, 2) := by decide +kernel
theorem dX8_sign_3 : decode cX8_sign 3 = .ok (.if_icmp .ne 7, 3) := by decide +kernel
theorem dX8_sign_6 : decode cX8_sign 6 = .ok (.iconst 4, 1) := by decide +kernel
theorem dX8_sign_7 : decode cX8_sign 7 = .ok (.goto 26, 3) := by decide +kernel
theorem dX8_sign_10 : decode cX8_sign 10 = .ok (.iload_n 2, 1) := by decide +kernel
theorem dX8_sign_11 : decode cX8_sign 11 = .ok (.bipush 40, 2) := by decide +kernel
theorem dX8_sign_13 : decode cX8_sign 13 = .ok (.if_icmp .ne 8, 3) := by decide +kernel
theorem dX8_sign_16 : decode cX8_sign 16 = .ok (.bipush 6, 2) := by decide +kernel
theorem dX8_sign_18 : decode cX8_sign 18 = .ok (.goto 15, 3) := by decide +kernel
theorem dX8_sign_21 : decode cX8_sign 21 = .ok (.iload_n 2, 1) := by decide +kernel
theorem dX8_sign_22 : decode cX8_sign 22 = .ok (.bipush 41, 2) := by decide +kernel
theorem dX8_sign_24 : decode cX8_sign 24 = .ok (.if_icmp .ne 8, 3) := by decide +kernel
theorem dX8_sign_27 : decode cX8_sign 27 = .ok (.bipush 7, 2) := by decide +kernel
theorem dX8_sign_29 : decode cX8_sign 29 = .ok (.goto 4, 3) := by decide +kernel
theorem dX8_sign_32 : decode cX8_sign 32 = .ok (.iconst 3, 1) := by decide +kernel
theorem dX8_sign_33 : decode cX8_sign 33 = .ok (.istore 4, 2) := by decide +kernel
theorem dX8_sign_35 : decode cX8_sign 35 = .ok (.iload_n 2, 1) := by decide +kernel
theorem dX8_sign_36 : decode cX8_sign 36 = .ok (.bipush 43, 2) := by decide +kernel
theorem dX8_sign_38 : decode cX8_sign 38 = .ok (.if_icmp .ne 7, 3) := by decide +kernel
theorem dX8_sign_41 : decode cX8_sign 41 = .ok (.bipush 8, 2) := by decide +kernel
theorem dX8_sign_43 : decode cX8_sign 43 = .ok (.istore 4, 2) := by decide +kernel
theorem dX8_sign_45 : decode cX8_sign 45 = .ok (.iload_n 2, 1) := by decide +kernel
theorem dX8_sign_46 : decode cX8_sign 46 = .ok (.bipush 45, 2) := by decide +kernel
theorem dX8_sign_48 : decode cX8_sign 48 = .ok (.if_icmp .ne 7, 3) := by decide +kernel
theorem dX8_sign_51 : decode cX8_sign 51 = .ok (.bipush 9, 2) := by decide +kernel
theorem dX8_sign_53 : decode cX8_sign 53 = .ok (.istore 4, 2) := by decide +kernel
theorem dX8_sign_55 : decode cX8_sign 55 = .ok (.iload_n 2, 1) := by decide +kernel
theorem dX8_sign_56 : decode cX8_sign 56 = .ok (.bipush 42, 2) := by decide +kernel
theorem dX8_sign_58 : decode cX8_sign 58 = .ok (.if_icmp .ne 7, 3) := by decide +kernel
theorem dX8_sign_61 : decode cX8_sign 61 = .ok (.bipush 10, 2) := by decide +kernel
theorem dX8_sign_63 : decode cX8_sign 63 = .ok (.istore 4, 2) := by decide +kernel
theorem dX8_sign_65 : decode cX8_sign 65 = .ok (.iload_n 2, 1) := by decide +kernel
theorem dX8_sign_66 : decode cX8_sign 66 = .ok (.bipush 47, 2) := by decide +kernel
theorem dX8_sign_68 : decode cX8_sign 68 = .ok (.if_icmp .ne 7, 3) := by decide +kernel
theorem dX8_sign_71 : decode cX8_sign 71 = .ok (.bipush 15, 2) := by decide +kernel
theorem dX8_sign_73 : decode cX8_sign 73 = .ok (.istore 4, 2) := by decide +kernel
theorem dX8_sign_75 : decode cX8_sign 75 = .ok (.iload_n 2, 1) := by decide +kernel
theorem dX8_sign_76 : decode cX8_sign 76 = .ok (.bipush 37, 2) := by decide +kernel
theorem dX8_sign_78 : decode cX8_sign 78 = .ok (.if_icmp .ne 7, 3) := by decide +kernel
theorem dX8_sign_81 : decode cX8_sign 81 = .ok (.bipush 16, 2) := by decide +kernel
theorem dX8_sign_83 : decode cX8_sign 83 = .ok (.istore 4, 2) := by decide +kernel
theorem dX8_sign_85 : decode cX8_sign 85 = .ok (.aload_n 0, 1) := by decide +kernel
theorem dX8_sign_86 : decode cX8_sign 86 = .ok (.iload 4, 2) := by decide +kernel
theorem dX8_sign_88 : decode cX8_sign 88 = .ok (.iload_n 1, 1) := by decide +kernel
theorem dX8_sign_89 : decode cX8_sign 89 = .ok (.iconst 0, 1) := by decide +kernel
theorem dX8_sign_90 : decode cX8_sign 90 = .ok (.lconst 0, 1) := by decide +kernel
theorem dX8_sign_91 : decode cX8_sign 91 = .ok (.invokevirtual 120, 3) := by decide +kernel
theorem dX8_sign_94 : decode cX8_sign 94 = .ok (.iconst 1, 1) := by decide +kernel
theorem dX8_sign_95 : decode cX8_sign 95 = .ok (.ireturn, 1) := by decide +kernel
theorem dX8_is_0 : decode cX8_is 0 = .ok (.aload_n 0, 1) := by decide +kernel
theorem dX8_is_1 : decode cX8_is 1 = .ok (.getfield 135, 3) := by decide +kernel
theorem dX8_is_4 : decode cX8_is 4 = .ok (.ifCond .ne 20, 3) := by decide +kernel
theorem dX8_is_7 : decode cX8_is 7 = .ok (.aload_n 0, 1) := by decide +kernel
theorem dX8_is_8 : decode cX8_is 8 = .ok (.getfield 20, 3) := by decide +kernel
theorem dX8_is_11 : decode cX8_is 11 = .ok (.aload_n 0, 1) := by decide +kernel
theorem dX8_is_12 : decode cX8_is 12 = .ok (.getfield 138, 3) := by decide +kernel
theorem dX8_is_15 : decode cX8_is 15 = .ok (.iaload, 1) := by decide +kernel
theorem dX8_is_16 : decode cX8_is 16 = .ok (.iload_n 1, 1) := by decide +kernel
theorem dX8_is_17 : decode cX8_is 17 = .ok (.if_icmp .ne 7, 3) := by decide +kernel
theorem dX8_is_20 : decode cX8_is 20 = .ok (.iconst 1, 1) := by decide +kernel
theorem dX8_is_21 : decode cX8_is 21 = .ok (.goto 4, 3) := by decide +kernel
theorem dX8_is_24 : decode cX8_is 24 = .ok (.iconst 0, 1) := by decide +kernel
theorem dX8_is_25 : decode cX8_is 25 = .ok (.ireturn, 1) := by decide +kernel
theorem dX8_fail_0 : decode cX8_fail 0 = .ok (.aload_n 0, 1) := by decide +kernel
theorem dX8_fail_1 : decode cX8_fail 1 = .ok (.getfield 135, 3) := by decide +kernel
theorem dX8_fail_4 : decode cX8_fail 4 = .ok (.ifCond .le 4, 3) := by decide +kernel
theorem dX8_fail_7 : decode cX8_fail 7 = .ok (.return_, 1) := by decide +kernel
theorem dX8_fail_8 : decode cX8_fail 8 = .ok (.aload_n 0, 1) := by decide +kernel
theorem dX8_fail_9 : decode cX8_fail 9 = .ok (.iload_n 1, 1) := by decide +kernel
theorem dX8_fail_10 : decode cX8_fail 10 = .ok (.putfield 135, 3) := by decide +kernel
theorem dX8_fail_13 : decode cX8_fail 13 = .ok (.aload_n 0, 1) := by decide +kernel
theorem dX8_fail_14 : decode cX8_fail 14 = .ok (.aload_n 0, 1) := by decide +kernel
theorem dX8_fail_15 : decode cX8_fail 15 = .ok (.getfield 24, 3) := by decide +kernel
theorem dX8_fail_18 : decode cX8_fail 18 = .ok (.aload_n 0, 1) := by decide +kernel
theorem dX8_fail_19 : decode cX8_fail 19 = .ok (.getfield 138, 3) := by decide +kernel
theorem dX8_fail_22 : decode cX8_fail 22 = .ok (.iaload, 1) := by decide +kernel
theorem dX8_fail_23 : decode cX8_fail 23 = .ok (.putfield 141, 3) := by decide +kernel
theorem dX8_fail_26 : decode cX8_fail 26 = .ok (.return_, 1) := by decide +kernel
theorem dX8_wrong_0 : decode cX8_wrong 0 = .ok (.aload_n 0, 1) := by decide +kernel
theorem dX8_wrong_1 : decode cX8_wrong 1 = .ok (.getfield 24, 3) := by decide +kernel
theorem dX8_wrong_4 : decode cX8_wrong 4 = .ok (.iload_n 2, 1) := by decide +kernel
theorem dX8_wrong_5 : decode cX8_wrong 5 = .ok (.iaload, 1) := by decide +kernel
theorem dX8_wrong_6 : decode cX8_wrong 6 = .ok (.istore_n 3, 1) := by decide +kernel
theorem dX8_wrong_7 : decode cX8_wrong 7 = .ok (.aload_n 0, 1) := by decide +kernel
theorem dX8_wrong_8 : decode cX8_wrong 8 = .ok (.getfield 135, 3) := by decide +kernel
theorem dX8_wrong_11 : decode cX8_wrong 11 = .ok (.ifCond .gt 34, 3) := by decide +kernel
theorem dX8_wrong_14 : decode cX8_wrong 14 = .ok (.aload_n 0, 1) := by decide +kernel
theorem dX8_wrong_15 : decode cX8_wrong 15 = .ok (.getfield 144, 3) := by decide +kernel
theorem dX8_wrong_18 : decode cX8_wrong 18 = .ok (.ifCond .eq 28, 3) := by decide +kernel
theorem dX8_wrong_21 : decode cX8_wrong 21 = .ok (.iload_n 3, 1) := by decide +kernel
theorem dX8_wrong_22 : decode cX8_wrong 22 = .ok (.aload_n 0, 1) := by decide +kernel
theorem dX8_wrong_23 : decode cX8_wrong 23 = .ok (.getfield 147, 3) := by decide +kernel
theorem dX8_wrong_26 : decode cX8_wrong 26 = .ok (.if_icmp .gt 19, 3) := by decide +kernel
theorem dX8_wrong_29 : decode cX8_wrong 29 = .ok (.iload_n 3, 1) := by decide +kernel
theorem dX8_wrong_30 : decode cX8_wrong 30 = .ok (.aload_n 0, 1) := by decide +kernel
theorem dX8_wrong_31 : decode cX8_wrong 31 = .ok (.getfield 147, 3) := by decide +kernel
theorem dX8_wrong_34 : decode cX8_wrong 34 = .ok (.if_icmp .ne 12, 3) := by decide +kernel
theorem dX8_wrong_37 : decode cX8_wrong 37 = .ok (.iload_n 1, 1) := by decide +kernel
theorem dX8_wrong_38 : decode cX8_wrong 38 = .ok (.aload_n 0, 1) := by decide +kernel
theorem dX8_wrong_39 : decode cX8_wrong 39 = .ok (.getfield 144, 3) := by decide +kernel
theorem dX8_wrong_42 : decode cX8_wrong 42 = .ok (.if_icmp .lt 4, 3) := by decide +kernel
theorem dX8_wrong_45 : decode cX8_wrong 45 = .ok (.return_, 1) := by decide +kernel
theorem dX8_wrong_46 : decode cX8_wrong 46 = .ok (.aload_n 0, 1) := by decide +kernel
theorem dX8_wrong_47 : decode cX8_wrong 47 = .ok (.iload_n 1, 1) := by decide +kernel
theorem dX8_wrong_48 : decode cX8_wrong 48 = .ok (.putfield 144, 3) := by decide +kernel
theorem dX8_wrong_51 : decode cX8_wrong 51 = .ok (.aload_n 0, 1) := by decide +kernel
theorem dX8_wrong_52 : decode cX8_wrong 52 = .ok (.iload_n 3, 1) := by decide +kernel
theorem dX8_wrong_53 : decode cX8_wrong 53 = .ok (.putfield 147, 3) := by decide +kernel
theorem dX8_wrong_56 : decode cX8_wrong 56 = .ok (.return_, 1) := by decide +kernel
theorem dX8_goesOn_0 : decode cX8_goesOn 0 = .ok (.aload_n 0, 1) := by decide +kernel
theorem dX8_goesOn_1 : decode cX8_goesOn 1 = .ok (.getfield 138, 3) := by decide +kernel
theorem dX8_goesOn_4 : decode cX8_goesOn 4 = .ok (.sipush 400, 3) := by decide +kernel
theorem dX8_goesOn_7 : decode cX8_goesOn 7 = .ok (.if_icmp .ne 11, 3) := by decide +kernel
theorem dX8_goesOn_10 : decode cX8_goesOn 10 = .ok (.aload_n 0, 1) := by decide +kernel
theorem dX8_goesOn_11 : decode cX8_goesOn 11 = .ok (.iconst 2, 1) := by decide +kernel
theorem dX8_goesOn_12 : decode cX8_goesOn 12 = .ok (.invokevirtual 150, 3) := by decide +kernel
theorem dX8_goesOn_15 : decode cX8_goesOn 15 = .ok (.goto 13, 3) := by decide +kernel
theorem dX8_goesOn_18 : decode cX8_goesOn 18 = .ok (.aload_n 0, 1) := by decide +kernel
theorem dX8_goesOn_19 : decode cX8_goesOn 19 = .ok (.dup, 1) := by decide +kernel
theorem dX8_goesOn_20 : decode cX8_goesOn 20 = .ok (.getfield 138, 3) := by decide +kernel
theorem dX8_goesOn_23 : decode cX8_goesOn 23 = .ok (.iconst 1, 1) := by decide +kernel
theorem dX8_goesOn_24 : decode cX8_goesOn 24 = .ok (.iadd, 1) := by decide +kernel
theorem dX8_goesOn_25 : decode cX8_goesOn 25 = .ok (.putfield 138, 3) := by decide +kernel
theorem dX8_goesOn_28 : decode cX8_goesOn 28 = .ok (.return_, 1) := by decide +kernel
theorem dX8_must_0 : decode cX8_must 0 = .ok (.aload_n 0, 1) := by decide +kernel
theorem dX8_must_1 : decode cX8_must 1 = .ok (.iload_n 1, 1) := by decide +kernel
theorem dX8_must_2 : decode cX8_must 2 = .ok (.invokevirtual 153, 3) := by decide +kernel
theorem dX8_must_5 : decode cX8_must 5 = .ok (.ifCond .eq 10, 3) := by decide +kernel
theorem dX8_must_8 : decode cX8_must 8 = .ok (.aload_n 0, 1) := by decide +kernel
theorem dX8_must_9 : decode cX8_must 9 = .ok (.invokevirtual 156, 3) := by decide +kernel
theorem dX8_must_12 : decode cX8_must 12 = .ok (.goto 8, 3) := by decide +kernel
theorem dX8_must_15 : decode cX8_must 15 = .ok (.aload_n 0, 1) := by decide +kernel
theorem dX8_must_16 : decode cX8_must 16 = .ok (.iconst 1, 1) := by decide +kernel
theorem dX8_must_17 : decode cX8_must 17 = .ok (.invokevirtual 150, 3) := by decide +kernel
theorem dX8_must_20 : decode cX8_must 20 = .ok (.return_, 1) := by decide +kernel
theorem dX8_read_0 : decode cX8_read 0 = .ok (.aload_n 0, 1) := by decide +kernel
theorem dX8_read_1 : decode cX8_read 1 = .ok (.aload_n 0, 1) := by decide +kernel
theorem dX8_read_2 : decode cX8_read 2 = .ok (.getfield 97, 3) := by decide +kernel
theorem dX8_read_5 : decode cX8_read 5 = .ok (.putfield 104, 3) := by decide +kernel
theorem dX8_read_8 : decode cX8_read 8 = .ok (.iconst 0, 1) := by decide +kernel
theorem dX8_read_9 : decode cX8_read 9 = .ok (.istore_n 1, 1) := by decide +kernel
theorem dX8_read_10 : decode cX8_read 10 = .ok (.iload_n 1, 1) := by decide +kernel
theorem dX8_read_11 : decode cX8_read 11 = .ok (.aload_n 0, 1) := by decide +kernel
theorem dX8_read_12 : decode cX8_read 12 = .ok (.getfield 104, 3) := by decide +kernel
theorem dX8_read_15 : decode cX8_read 15 = .ok (.if_icmp .ge 21, 3) := by decide +kernel
theorem dX8_read_18 : decode cX8_read 18 = .ok (.aload_n 0, 1) := by decide +kernel
theorem dX8_read_19 : decode cX8_read 19 = .ok (.getfield 17, 3) := by decide +kernel
theorem dX8_read_22 : decode cX8_read 22 = .ok (.iload_n 1, 1) := by decide +kernel
theorem dX8_read_23 : decode cX8_read 23 = .ok (.aload_n 0, 1) := by decide +kernel
theorem dX8_read_24 : decode cX8_read 24 = .ok (.getfield 13, 3) := by decide +kernel
theorem dX8_read_27 : decode cX8_read 27 = .ok (.iload_n 1, 1) := by decide +kernel
theorem dX8_read_28 : decode cX8_read 28 = .ok (.baload, 1) := by decide +kernel
theorem dX8_read_29 : decode cX8_read 29 = .ok (.bastore, 1) := by decide +kernel
theorem dX8_read_30 : decode cX8_read 30 = .ok (.iinc 1 1, 3) := by decide +kernel
theorem dX8_read_33 : decode cX8_read 33 = .ok (.goto (-23), 3) := by decide +kernel
theorem dX8_read_36 : decode cX8_read 36 = .ok (.aload_n 0, 1) := by decide +kernel
theorem dX8_read_37 : decode cX8_read 37 = .ok (.iconst 0, 1) := by decide +kernel
theorem dX8_read_38 : decode cX8_read 38 = .ok (.putfield 97, 3) := by decide +kernel
theorem dX8_read_41 : decode cX8_read 41 = .ok (.aload_n 0, 1) := by decide +kernel
theorem dX8_read_42 : decode cX8_read 42 = .ok (.invokevirtual 159, 3) := by decide +kernel
theorem dX8_read_45 : decode cX8_read 45 = .ok (.aload_n 0, 1) := by decide +kernel
theorem dX8_read_46 : decode cX8_read 46 = .ok (.iconst 0, 1) := by decide +kernel
theorem dX8_read_47 : decode cX8_read 47 = .ok (.putfield 138, 3) := by decide +kernel
theorem dX8_read_50 : decode cX8_read 50 = .ok (.aload_n 0, 1) := by decide +kernel
theorem dX8_read_51 : decode cX8_read 51 = .ok (.iconst 0, 1) := by decide +kernel
theorem dX8_read_52 : decode cX8_read 52 = .ok (.putfield 162, 3) := by decide +kernel
theorem dX8_read_55 : decode cX8_read 55 = .ok (.aload_n 0, 1) := by decide +kernel
theorem dX8_read_56 : decode cX8_read 56 = .ok (.iconst 0, 1) := by decide +kernel
theorem dX8_read_57 : decode cX8_read 57 = .ok (.putfield 135, 3) := by decide +kernel
theorem dX8_read_60 : decode cX8_read 60 = .ok (.aload_n 0, 1) := by decide +kernel
theorem dX8_read_61 : decode cX8_read 61 = .ok (.iconst 0, 1) := by decide +kernel
theorem dX8_read_62 : decode cX8_read 62 = .ok (.putfield 144, 3) := by decide +kernel
theorem dX8_read_65 : decode cX8_read 65 = .ok (.aload_n 0, 1) := by decide +kernel
theorem dX8_read_66 : decode cX8_read 66 = .ok (.iconst 0, 1) := by decide +kernel
theorem dX8_read_67 : decode cX8_read 67 = .ok (.putfield 165, 3) := by decide +kernel
theorem dX8_read_70 : decode cX8_read 70 = .ok (.aload_n 0, 1) := by decide +kernel
theorem dX8_read_71 : decode cX8_read 71 = .ok (.iconst 0, 1) := by decide +kernel
theorem dX8_read_72 : decode cX8_read 72 = .ok (.putfield 168, 3) := by decide +kernel
theorem dX8_read_75 : decode cX8_read 75 = .ok (.aload_n 0, 1) := by decide +kernel
theorem dX8_read_76 : decode cX8_read 76 = .ok (.iconst 0, 1) := by decide +kernel
theorem dX8_read_77 : decode cX8_read 77 = .ok (.putfield 171, 3) := by decide +kernel
theorem dX8_read_80 : decode cX8_read 80 = .ok (.aload_n 0, 1) := by decide +kernel
theorem dX8_read_81 : decode cX8_read 81 = .ok (.bipush 20, 2) := by decide +kernel
theorem dX8_read_83 : decode cX8_read 83 = .ok (.iconst 1, 1) := by decide +kernel
theorem dX8_read_84 : decode cX8_read 84 = .ok (.bipush 8, 2) := by decide +kernel
theorem dX8_read_86 : decode cX8_read 86 = .ok (.iconst 4, 1) := by decide +kernel
theorem dX8_read_87 : decode cX8_read 87 = .ok (.invokevirtual 174, 3) := by decide +kernel
theorem dX8_read_90 : decode cX8_read 90 = .ok (.istore_n 1, 1) := by decide +kernel
theorem dX8_read_91 : decode cX8_read 91 = .ok (.aload_n 0, 1) := by decide +kernel
theorem dX8_read_92 : decode cX8_read 92 = .ok (.bipush 21, 2) := by decide +kernel
theorem dX8_read_94 : decode cX8_read 94 = .ok (.iconst 2, 1) := by decide +kernel
theorem dX8_read_95 : decode cX8_read 95 = .ok (.bipush 8, 2) := by decide +kernel
theorem dX8_read_97 : decode cX8_read 97 = .ok (.iconst 4, 1) := by decide +kernel
theorem dX8_read_98 : decode cX8_read 98 = .ok (.invokevirtual 174, 3) := by decide +kernel
theorem dX8_read_101 : decode cX8_read 101 = .ok (.istore_n 2, 1) := by decide +kernel
theorem dX8_read_102 : decode cX8_read 102 = .ok (.aload_n 0, 1) := by decide +kernel
theorem dX8_read_103 : decode cX8_read 103 = .ok (.getfield 135, 3) := by decide +kernel
theorem dX8_read_106 : decode cX8_read 106 = .ok (.ifCond .ne 18, 3) := by decide +kernel
theorem dX8_read_109 : decode cX8_read 109 = .ok (.aload_n 0, 1) := by decide +kernel
theorem dX8_read_110 : decode cX8_read 110 = .ok (.iconst 0, 1) := by decide +kernel
theorem dX8_read_111 : decode cX8_read 111 = .ok (.invokevirtual 153, 3) := by decide +kernel
theorem dX8_read_114 : decode cX8_read 114 = .ok (.ifCond .ne 10, 3) := by decide +kernel
theorem dX8_read_117 : decode cX8_read 117 = .ok (.aload_n 0, 1) := by decide +kernel
theorem dX8_read_118 : decode cX8_read 118 = .ok (.invokevirtual 178, 3) := by decide +kernel
theorem dX8_read_121 : decode cX8_read 121 = .ok (.goto (-19), 3) := by decide +kernel
theorem dX8_read_124 : decode cX8_read 124 = .ok (.aload_n 0, 1) := by decide +kernel
theorem dX8_read_125 : decode cX8_read 125 = .ok (.getfield 135, 3) := by decide +kernel
theorem dX8_read_128 : decode cX8_read 128 = .ok (.ifCond .ne 15, 3) := by decide +kernel
theorem dX8_read_131 : decode cX8_read 131 = .ok (.aload_n 0, 1) := by decide +kernel
theorem dX8_read_132 : decode cX8_read 132 = .ok (.getfield 168, 3) := by decide +kernel
theorem dX8_read_135 : decode cX8_read 135 = .ok (.ifCond .le 8, 3) := by decide +kernel
theorem dX8_read_138 : decode cX8_read 138 = .ok (.aload_n 0, 1) := by decide +kernel
theorem dX8_read_139 : decode cX8_read 139 = .ok (.iconst 1, 1) := by decide +kernel
theorem dX8_read_140 : decode cX8_read 140 = .ok (.invokevirtual 150, 3) := by decide +kernel
theorem dX8_read_143 : decode cX8_read 143 = .ok (.aload_n 0, 1) := by decide +kernel
theorem dX8_read_144 : decode cX8_read 144 = .ok (.aload_n 0, 1) := by decide +kernel
theorem dX8_read_145 : decode cX8_read 145 = .ok (.getfield 135, 3) := by decide +kernel
theorem dX8_read_148 : decode cX8_read 148 = .ok (.ifCond .le 10, 3) := by decide +kernel
theorem dX8_read_151 : decode cX8_read 151 = .ok (.aload_n 0, 1) := by decide +kernel
theorem dX8_read_152 : decode cX8_read 152 = .ok (.getfield 141, 3) := by decide +kernel
theorem dX8_read_155 : decode cX8_read 155 = .ok (.goto 18, 3) := by decide +kernel
theorem dX8_read_158 : decode cX8_read 158 = .ok (.aload_n 0, 1) := by decide +kernel
theorem dX8_read_159 : decode cX8_read 159 = .ok (.getfield 144, 3) := by decide +kernel
theorem dX8_read_162 : decode cX8_read 162 = .ok (.ifCond .le 10, 3) := by decide +kernel
theorem dX8_read_165 : decode cX8_read 165 = .ok (.aload_n 0, 1) := by decide +kernel
theorem dX8_read_166 : decode cX8_read 166 = .ok (.getfield 147, 3) := by decide +kernel
theorem dX8_read_169 : decode cX8_read 169 = .ok (.goto 4, 3) := by decide +kernel
theorem dX8_read_172 : decode cX8_read 172 = .ok (.iconst (-1), 1) := by decide +kernel
theorem dX8_read_173 : decode cX8_read 173 = .ok (.putfield 37, 3) := by decide +kernel
theorem dX8_read_176 : decode cX8_read 176 = .ok (.aload_n 0, 1) := by decide +kernel
theorem dX8_read_177 : decode cX8_read 177 = .ok (.getfield 135, 3) := by decide +kernel
theorem dX8_read_180 : decode cX8_read 180 = .ok (.ifCond .le 8, 3) := by decide +kernel
theorem dX8_read_183 : decode cX8_read 183 = .ok (.aload_n 0, 1) := by decide +kernel
theorem dX8_read_184 : decode cX8_read 184 = .ok (.getfield 135, 3) := by decide +kernel
theorem dX8_read_187 : decode cX8_read 187 = .ok (.ireturn, 1) := by decide +kernel
theorem dX8_read_188 : decode cX8_read 188 = .ok (.aload_n 0, 1) := by decide +kernel
theorem dX8_read_189 : decode cX8_read 189 = .ok (.getfield 144, 3) := by decide +kernel
theorem dX8_read_192 : decode cX8_read 192 = .ok (.ifCond .le 8, 3) := by decide +kernel
theorem dX8_read_195 : decode cX8_read 195 = .ok (.aload_n 0, 1) := by decide +kernel
theorem dX8_read_196 : decode cX8_read 196 = .ok (.getfield 144, 3) := by decide +kernel
theorem dX8_read_199 : decode cX8_read 199 = .ok (.ireturn, 1) := by decide +kernel
theorem dX8_read_200 : decode cX8_read 200 = .ok (.aload_n 0, 1) := by decide +kernel
theorem dX8_read_201 : decode cX8_read 201 = .ok (.iload_n 1, 1) := by decide +kernel
theorem dX8_read_202 : decode cX8_read 202 = .ok (.iload_n 2, 1) := by decide +kernel
theorem dX8_read_203 : decode cX8_read 203 = .ok (.invokevirtual 93, 3) := by decide +kernel
theorem dX8_read_206 : decode cX8_read 206 = .ok (.iconst 0, 1) := by decide +kernel
theorem dX8_read_207 : decode cX8_read 207 = .ok (.istore_n 3, 1) := by decide +kernel
theorem dX8_read_208 : decode cX8_read 208 = .ok (.iload_n 3, 1) := by decide +kernel
theorem dX8_read_209 : decode cX8_read 209 = .ok (.iconst 3, 1) := by decide +kernel
theorem dX8_read_210 : decode cX8_read 210 = .ok (.if_icmp .ge 16, 3) := by decide +kernel
theorem dX8_read_213 : decode cX8_read 213 = .ok (.aload_n 0, 1) := by decide +kernel
theorem dX8_read_214 : decode cX8_read 214 = .ok (.getfield 82, 3) := by decide +kernel
theorem dX8_read_217 : decode cX8_read 217 = .ok (.iload_n 3, 1) := by decide +kernel
theorem dX8_read_218 : decode cX8_read 218 = .ok (.iconst 0, 1) := by decide +kernel
theorem dX8_read_219 : decode cX8_read 219 = .ok (.bastore, 1) := by decide +kernel
theorem dX8_read_220 : decode cX8_read 220 = .ok (.iinc 3 1, 3) := by decide +kernel
theorem dX8_read_223 : decode cX8_read 223 = .ok (.goto (-15), 3) := by decide +kernel
theorem dX8_read_226 : decode cX8_read 226 = .ok (.aload_n 0, 1) := by decide +kernel
theorem dX8_read_227 : decode cX8_read 227 = .ok (.invokevirtual 181, 3) := by decide +kernel
theorem dX8_read_230 : decode cX8_read 230 = .ok (.iconst 0, 1) := by decide +kernel
theorem dX8_read_231 : decode cX8_read 231 = .ok (.ireturn, 1) := by decide +kernel
theorem dX8_place_0 : decode cX8_place 0 = .ok (.aload_n 0, 1) := by decide +kernel
theorem dX8_place_1 : decode cX8_place 1 = .ok (.getfield 37, 3) := by decide +kernel
theorem dX8_place_4 : decode cX8_place 4 = .ok (.ireturn, 1) := by decide +kernel
theorem dX8_bounded_0 : decode cX8_bounded 0 = .ok (.aload_n 0, 1) := by decide +kernel
theorem dX8_bounded_1 : decode cX8_bounded 1 = .ok (.getfield 135, 3) := by decide +kernel
theorem dX8_bounded_4 : decode cX8_bounded 4 = .ok (.ifCond .gt 11, 3) := by decide +kernel
theorem dX8_bounded_7 : decode cX8_bounded 7 = .ok (.aload_n 0, 1) := by decide +kernel
theorem dX8_bounded_8 : decode cX8_bounded 8 = .ok (.iconst 2, 1) := by decide +kernel
theorem dX8_bounded_9 : decode cX8_bounded 9 = .ok (.invokevirtual 153, 3) := by decide +kernel
theorem dX8_bounded_12 : decode cX8_bounded 12 = .ok (.ifCond .ne 10, 3) := by decide +kernel
theorem dX8_bounded_15 : decode cX8_bounded 15 = .ok (.aload_n 0, 1) := by decide +kernel
theorem dX8_bounded_16 : decode cX8_bounded 16 = .ok (.iconst 1, 1) := by decide +kernel
theorem dX8_bounded_17 : decode cX8_bounded 17 = .ok (.invokevirtual 150, 3) := by decide +kernel
theorem dX8_bounded_20 : decode cX8_bounded 20 = .ok (.iload_n 1, 1) := by decide +kernel
theorem dX8_bounded_21 : decode cX8_bounded 21 = .ok (.ireturn, 1) := by decide +kernel
theorem dX8_bounded_22 : decode cX8_bounded 22 = .ok (.aload_n 0, 1) := by decide +kernel
theorem dX8_bounded_23 : decode cX8_bounded 23 = .ok (.getfield 27, 3) := by decide +kernel
theorem dX8_bounded_26 : decode cX8_bounded 26 = .ok (.aload_n 0, 1) := by decide +kernel
theorem dX8_bounded_27 : decode cX8_bounded 27 = .ok (.getfield 138, 3) := by decide +kernel
theorem dX8_bounded_30 : decode cX8_bounded 30 = .ok (.iaload, 1) := by decide +kernel
theorem dX8_bounded_31 : decode cX8_bounded 31 = .ok (.istore_n 3, 1) := by decide +kernel
theorem dX8_bounded_32 : decode cX8_bounded 32 = .ok (.iload_n 3, 1) := by decide +kernel
theorem dX8_bounded_33 : decode cX8_bounded 33 = .ok (.iload_n 1, 1) := by decide +kernel
theorem dX8_bounded_34 : decode cX8_bounded 34 = .ok (.if_icmp .lt 8, 3) := by decide +kernel
theorem dX8_bounded_37 : decode cX8_bounded 37 = .ok (.iload_n 3, 1) := by decide +kernel
theorem dX8_bounded_38 : decode cX8_bounded 38 = .ok (.iload_n 2, 1) := by decide +kernel
theorem dX8_bounded_39 : decode cX8_bounded 39 = .ok (.if_icmp .le 12, 3) := by decide +kernel
theorem dX8_bounded_42 : decode cX8_bounded 42 = .ok (.aload_n 0, 1) := by decide +kernel
theorem dX8_bounded_43 : decode cX8_bounded 43 = .ok (.iconst 5, 1) := by decide +kernel
theorem dX8_bounded_44 : decode cX8_bounded 44 = .ok (.aload_n 0, 1) := by decide +kernel
theorem dX8_bounded_45 : decode cX8_bounded 45 = .ok (.getfield 138, 3) := by decide +kernel
theorem dX8_bounded_48 : decode cX8_bounded 48 = .ok (.invokevirtual 184, 3) := by decide +kernel
theorem dX8_bounded_51 : decode cX8_bounded 51 = .ok (.aload_n 0, 1) := by decide +kernel
theorem dX8_bounded_52 : decode cX8_bounded 52 = .ok (.invokevirtual 156, 3) := by decide +kernel
theorem dX8_bounded_55 : decode cX8_bounded 55 = .ok (.iload_n 3, 1) := by decide +kernel
theorem dX8_bounded_56 : decode cX8_bounded 56 = .ok (.ireturn, 1) := by decide +kernel
theorem dX8_toldOr_0 : decode cX8_toldOr 0 = .ok (.aload_n 0, 1) := by decide +kernel
theorem dX8_toldOr_1 : decode cX8_toldOr 1 = .ok (.iload_n 1, 1) := by decide +kernel
theorem dX8_toldOr_2 : decode cX8_toldOr 2 = .ok (.invokevirtual 153, 3) := by decide +kernel
theorem dX8_toldOr_5 : decode cX8_toldOr 5 = .ok (.ifCond .ne 6, 3) := by decide +kernel
theorem dX8_toldOr_8 : decode cX8_toldOr 8 = .ok (.iload 4, 2) := by decide +kernel
theorem dX8_toldOr_10 : decode cX8_toldOr 10 = .ok (.ireturn, 1) := by decide +kernel
theorem dX8_toldOr_11 : decode cX8_toldOr 11 = .ok (.aload_n 0, 1) := by decide +kernel
theorem dX8_toldOr_12 : decode cX8_toldOr 12 = .ok (.invokevirtual 156, 3) := by decide +kernel
theorem dX8_toldOr_15 : decode cX8_toldOr 15 = .ok (.aload_n 0, 1) := by decide +kernel
theorem dX8_toldOr_16 : decode cX8_toldOr 16 = .ok (.iload_n 2, 1) := by decide +kernel
theorem dX8_toldOr_17 : decode cX8_toldOr 17 = .ok (.iload_n 3, 1) := by decide +kernel
theorem dX8_toldOr_18 : decode cX8_toldOr 18 = .ok (.invokevirtual 187, 3) := by decide +kernel
theorem dX8_toldOr_21 : decode cX8_toldOr 21 = .ok (.istore 5, 2) := by decide +kernel
theorem dX8_toldOr_23 : decode cX8_toldOr 23 = .ok (.aload_n 0, 1) := by decide +kernel
theorem dX8_toldOr_24 : decode cX8_toldOr 24 = .ok (.iconst 4, 1) := by decide +kernel
theorem dX8_toldOr_25 : decode cX8_toldOr 25 = .ok (.invokevirtual 191, 3) := by decide +kernel
theorem dX8_toldOr_28 : decode cX8_toldOr 28 = .ok (.iload 5, 2) := by decide +kernel
theorem dX8_toldOr_30 : decode cX8_toldOr 30 = .ok (.ireturn, 1) := by decide +kernel
theorem dX8_termsOf_0 : decode cX8_termsOf 0 = .ok (.iload_n 0, 1) := by decide +kernel
theorem dX8_termsOf_1 : decode cX8_termsOf 1 = .ok (.tableswitch 49 2 8 #[45, 43, 43, 45, 49, 45, 47], 43) := by decide +kernel
theorem dX8_termsOf_44 : decode cX8_termsOf 44 = .ok (.iconst 0, 1) := by decide +kernel
theorem dX8_termsOf_45 : decode cX8_termsOf 45 = .ok (.ireturn, 1) := by decide +kernel
theorem dX8_termsOf_46 : decode cX8_termsOf 46 = .ok (.iconst 1, 1) := by decide +kernel
theorem dX8_termsOf_47 : decode cX8_termsOf 47 = .ok (.ireturn, 1) := by decide +kernel
theorem dX8_termsOf_48 : decode cX8_termsOf 48 = .ok (.iconst 3, 1) := by decide +kernel
theorem dX8_termsOf_49 : decode cX8_termsOf 49 = .ok (.ireturn, 1) := by decide +kernel
theorem dX8_termsOf_50 : decode cX8_termsOf 50 = .ok (.iconst 2, 1) := by decide +kernel
theorem dX8_termsOf_51 : decode cX8_termsOf 51 = .ok (.ireturn, 1) := by decide +kernel
theorem dX8_tellOne_0 : decode cX8_tellOne 0 = .ok (.aload_n 0, 1) := by decide +kernel
theorem dX8_tellOne_1 : decode cX8_tellOne 1 = .ok (.getfield 165, 3) := by decide +kernel
theorem dX8_tellOne_4 : decode cX8_tellOne 4 = .ok (.istore_n 1, 1) := by decide +kernel
theorem dX8_tellOne_5 : decode cX8_tellOne 5 = .ok (.aload_n 0, 1) := by decide +kernel
theorem dX8_tellOne_6 : decode cX8_tellOne 6 = .ok (.getfield 20, 3) := by decide +kernel
theorem dX8_tellOne_9 : decode cX8_tellOne 9 = .ok (.aload_n 0, 1) := by decide +kernel
theorem dX8_tellOne_10 : decode cX8_tellOne 10 = .ok (.getfield 138, 3) := by decide +kernel
theorem dX8_tellOne_13 : decode cX8_tellOne 13 = .ok (.iaload, 1) := by decide +kernel
theorem dX8_tellOne_14 : decode cX8_tellOne 14 = .ok (.bipush 22, 2) := by decide +kernel
theorem dX8_tellOne_16 : decode cX8_tellOne 16 = .ok (.isub, 1) := by decide +kernel
theorem dX8_tellOne_17 : decode cX8_tellOne 17 = .ok (.istore_n 2, 1) := by decide +kernel
theorem dX8_tellOne_18 : decode cX8_tellOne 18 = .ok (.iload_n 2, 1) := by decide +kernel
theorem dX8_tellOne_19 : decode cX8_tellOne 19 = .ok (.iconst 0, 1) := by decide +kernel
theorem dX8_tellOne_20 : decode cX8_tellOne 20 = .ok (.bipush 11, 2) := by decide +kernel
theorem dX8_tellOne_22 : decode cX8_tellOne 22 = .ok (.invokestatic 194, 3) := by decide +kernel
theorem dX8_tellOne_25 : decode cX8_tellOne 25 = .ok (.ifCond .ne 8, 3) := by decide +kernel
theorem dX8_tellOne_28 : decode cX8_tellOne 28 = .ok (.aload_n 0, 1) := by decide +kernel
theorem dX8_tellOne_29 : decode cX8_tellOne 29 = .ok (.iconst 1, 1) := by decide +kernel
theorem dX8_tellOne_30 : decode cX8_tellOne 30 = .ok (.invokevirtual 150, 3) := by decide +kernel
theorem dX8_tellOne_33 : decode cX8_tellOne 33 = .ok (.iload_n 2, 1) := by decide +kernel
theorem dX8_tellOne_34 : decode cX8_tellOne 34 = .ok (.bipush 10, 2) := by decide +kernel
theorem dX8_tellOne_36 : decode cX8_tellOne 36 = .ok (.if_icmp .ne 16, 3) := by decide +kernel
theorem dX8_tellOne_39 : decode cX8_tellOne 39 = .ok (.aload_n 0, 1) := by decide +kernel
theorem dX8_tellOne_40 : decode cX8_tellOne 40 = .ok (.getfield 168, 3) := by decide +kernel
theorem dX8_tellOne_43 : decode cX8_tellOne 43 = .ok (.iconst 3, 1) := by decide +kernel
theorem dX8_tellOne_44 : decode cX8_tellOne 44 = .ok (.if_icmp .ne 8, 3) := by decide +kernel
theorem dX8_tellOne_47 : decode cX8_tellOne 47 = .ok (.aload_n 0, 1) := by decide +kernel
theorem dX8_tellOne_48 : decode cX8_tellOne 48 = .ok (.iconst 2, 1) := by decide +kernel
theorem dX8_tellOne_49 : decode cX8_tellOne 49 = .ok (.invokevirtual 150, 3) := by decide +kernel
theorem dX8_tellOne_52 : decode cX8_tellOne 52 = .ok (.iload_n 2, 1) := by decide +kernel
theorem dX8_tellOne_53 : decode cX8_tellOne 53 = .ok (.bipush 11, 2) := by decide +kernel
theorem dX8_tellOne_55 : decode cX8_tellOne 55 = .ok (.if_icmp .ne 15, 3) := by decide +kernel
theorem dX8_tellOne_58 : decode cX8_tellOne 58 = .ok (.aload_n 0, 1) := by decide +kernel
theorem dX8_tellOne_59 : decode cX8_tellOne 59 = .ok (.getfield 168, 3) := by decide +kernel
theorem dX8_tellOne_62 : decode cX8_tellOne 62 = .ok (.ifCond .ne 8, 3) := by decide +kernel
theorem dX8_tellOne_65 : decode cX8_tellOne 65 = .ok (.aload_n 0, 1) := by decide +kernel
theorem dX8_tellOne_66 : decode cX8_tellOne 66 = .ok (.iconst 1, 1) := by decide +kernel
theorem dX8_tellOne_67 : decode cX8_tellOne 67 = .ok (.invokevirtual 150, 3) := by decide +kernel
theorem dX8_tellOne_70 : decode cX8_tellOne 70 = .ok (.aload_n 0, 1) := by decide +kernel
theorem dX8_tellOne_71 : decode cX8_tellOne 71 = .ok (.getfield 135, 3) := by decide +kernel
theorem dX8_tellOne_74 : decode cX8_tellOne 74 = .ok (.ifCond .le 4, 3) := by decide +kernel
theorem dX8_tellOne_77 : decode cX8_tellOne 77 = .ok (.return_, 1) := by decide +kernel
theorem dX8_tellOne_78 : decode cX8_tellOne 78 = .ok (.aload_n 0, 1) := by decide +kernel
theorem dX8_tellOne_79 : decode cX8_tellOne 79 = .ok (.invokevirtual 156, 3) := by decide +kernel
theorem dX8_tellOne_82 : decode cX8_tellOne 82 = .ok (.aload_n 0, 1) := by decide +kernel
theorem dX8_tellOne_83 : decode cX8_tellOne 83 = .ok (.getfield 40, 3) := by decide +kernel
theorem dX8_tellOne_86 : decode cX8_tellOne 86 = .ok (.iload_n 1, 1) := by decide +kernel
theorem dX8_tellOne_87 : decode cX8_tellOne 87 = .ok (.iload_n 2, 1) := by decide +kernel
theorem dX8_tellOne_88 : decode cX8_tellOne 88 = .ok (.iastore, 1) := by decide +kernel
theorem dX8_tellOne_89 : decode cX8_tellOne 89 = .ok (.iload_n 2, 1) := by decide +kernel
theorem dX8_tellOne_90 : decode cX8_tellOne 90 = .ok (.bipush 10, 2) := by decide +kernel
theorem dX8_tellOne_92 : decode cX8_tellOne 92 = .ok (.if_icmp .ne 39, 3) := by decide +kernel
theorem dX8_tellOne_95 : decode cX8_tellOne 95 = .ok (.aload_n 0, 1) := by decide +kernel
theorem dX8_tellOne_96 : decode cX8_tellOne 96 = .ok (.getfield 46, 3) := by decide +kernel
theorem dX8_tellOne_99 : decode cX8_tellOne 99 = .ok (.iload_n 1, 1) := by decide +kernel
theorem dX8_tellOne_100 : decode cX8_tellOne 100 = .ok (.aload_n 0, 1) := by decide +kernel
theorem dX8_tellOne_101 : decode cX8_tellOne 101 = .ok (.iconst 0, 1) := by decide +kernel
theorem dX8_tellOne_102 : decode cX8_tellOne 102 = .ok (.bipush 99, 2) := by decide +kernel
theorem dX8_tellOne_104 : decode cX8_tellOne 104 = .ok (.invokevirtual 187, 3) := by decide +kernel
theorem dX8_tellOne_107 : decode cX8_tellOne 107 = .ok (.iastore, 1) := by decide +kernel
theorem dX8_tellOne_108 : decode cX8_tellOne 108 = .ok (.aload_n 0, 1) := by decide +kernel
theorem dX8_tellOne_109 : decode cX8_tellOne 109 = .ok (.getfield 52, 3) := by decide +kernel
theorem dX8_tellOne_112 : decode cX8_tellOne 112 = .ok (.aload_n 0, 1) := by decide +kernel
theorem dX8_tellOne_113 : decode cX8_tellOne 113 = .ok (.getfield 168, 3) := by decide +kernel
theorem dX8_tellOne_116 : decode cX8_tellOne 116 = .ok (.iload_n 1, 1) := by decide +kernel
theorem dX8_tellOne_117 : decode cX8_tellOne 117 = .ok (.iastore, 1) := by decide +kernel
theorem dX8_tellOne_118 : decode cX8_tellOne 118 = .ok (.aload_n 0, 1) := by decide +kernel
theorem dX8_tellOne_119 : decode cX8_tellOne 119 = .ok (.dup, 1) := by decide +kernel
theorem dX8_tellOne_120 : decode cX8_tellOne 120 = .ok (.getfield 168, 3) := by decide +kernel
theorem dX8_tellOne_123 : decode cX8_tellOne 123 = .ok (.iconst 1, 1) := by decide +kernel
theorem dX8_tellOne_124 : decode cX8_tellOne 124 = .ok (.iadd, 1) := by decide +kernel
theorem dX8_tellOne_125 : decode cX8_tellOne 125 = .ok (.putfield 168, 3) := by decide +kernel
theorem dX8_tellOne_128 : decode cX8_tellOne 128 = .ok (.goto 98, 3) := by decide +kernel
theorem dX8_tellOne_131 : decode cX8_tellOne 131 = .ok (.iload_n 2, 1) := by decide +kernel
theorem dX8_tellOne_132 : decode cX8_tellOne 132 = .ok (.bipush 11, 2) := by decide +kernel
theorem dX8_tellOne_134 : decode cX8_tellOne 134 = .ok (.if_icmp .ne 46, 3) := by decide +kernel
theorem dX8_tellOne_137 : decode cX8_tellOne 137 = .ok (.aload_n 0, 1) := by decide +kernel
theorem dX8_tellOne_138 : decode cX8_tellOne 138 = .ok (.dup, 1) := by decide +kernel
theorem dX8_tellOne_139 : decode cX8_tellOne 139 = .ok (.getfield 168, 3) := by decide +kernel
theorem dX8_tellOne_142 : decode cX8_tellOne 142 = .ok (.iconst 1, 1) := by decide +kernel
theorem dX8_tellOne_143 : decode cX8_tellOne 143 = .ok (.isub, 1) := by decide +kernel
theorem dX8_tellOne_144 : decode cX8_tellOne 144 = .ok (.putfield 168, 3) := by decide +kernel
theorem dX8_tellOne_147 : decode cX8_tellOne 147 = .ok (.aload_n 0, 1) := by decide +kernel
theorem dX8_tellOne_148 : decode cX8_tellOne 148 = .ok (.getfield 49, 3) := by decide +kernel
theorem dX8_tellOne_151 : decode cX8_tellOne 151 = .ok (.iload_n 1, 1) := by decide +kernel
theorem dX8_tellOne_152 : decode cX8_tellOne 152 = .ok (.aload_n 0, 1) := by decide +kernel
theorem dX8_tellOne_153 : decode cX8_tellOne 153 = .ok (.getfield 52, 3) := by decide +kernel
theorem dX8_tellOne_156 : decode cX8_tellOne 156 = .ok (.aload_n 0, 1) := by decide +kernel
theorem dX8_tellOne_157 : decode cX8_tellOne 157 = .ok (.getfield 168, 3) := by decide +kernel
theorem dX8_tellOne_160 : decode cX8_tellOne 160 = .ok (.iaload, 1) := by decide +kernel
theorem dX8_tellOne_161 : decode cX8_tellOne 161 = .ok (.iastore, 1) := by decide +kernel
theorem dX8_tellOne_162 : decode cX8_tellOne 162 = .ok (.aload_n 0, 1) := by decide +kernel
theorem dX8_tellOne_163 : decode cX8_tellOne 163 = .ok (.getfield 49, 3) := by decide +kernel
theorem dX8_tellOne_166 : decode cX8_tellOne 166 = .ok (.aload_n 0, 1) := by decide +kernel
theorem dX8_tellOne_167 : decode cX8_tellOne 167 = .ok (.getfield 52, 3) := by decide +kernel
theorem dX8_tellOne_170 : decode cX8_tellOne 170 = .ok (.aload_n 0, 1) := by decide +kernel
theorem dX8_tellOne_171 : decode cX8_tellOne 171 = .ok (.getfield 168, 3) := by decide +kernel
theorem dX8_tellOne_174 : decode cX8_tellOne 174 = .ok (.iaload, 1) := by decide +kernel
theorem dX8_tellOne_175 : decode cX8_tellOne 175 = .ok (.iload_n 1, 1) := by decide +kernel
theorem dX8_tellOne_176 : decode cX8_tellOne 176 = .ok (.iastore, 1) := by decide +kernel
theorem dX8_tellOne_177 : decode cX8_tellOne 177 = .ok (.goto 49, 3) := by decide +kernel
theorem dX8_tellOne_180 : decode cX8_tellOne 180 = .ok (.iconst 0, 1) := by decide +kernel
theorem dX8_tellOne_181 : decode cX8_tellOne 181 = .ok (.istore_n 3, 1) := by decide +kernel
theorem dX8_tellOne_182 : decode cX8_tellOne 182 = .ok (.iload_n 3, 1) := by decide +kernel
theorem dX8_tellOne_183 : decode cX8_tellOne 183 = .ok (.iconst 4, 1) := by decide +kernel
theorem dX8_tellOne_184 : decode cX8_tellOne 184 = .ok (.if_icmp .ge 42, 3) := by decide +kernel
theorem dX8_tellOne_187 : decode cX8_tellOne 187 = .ok (.aload_n 0, 1) := by decide +kernel
theorem dX8_tellOne_188 : decode cX8_tellOne 188 = .ok (.getfield 43, 3) := by decide +kernel
theorem dX8_tellOne_191 : decode cX8_tellOne 191 = .ok (.iconst 4, 1) := by decide +kernel
theorem dX8_tellOne_192 : decode cX8_tellOne 192 = .ok (.iload_n 1, 1) := by decide +kernel
theorem dX8_tellOne_193 : decode cX8_tellOne 193 = .ok (.imul, 1) := by decide +kernel
theorem dX8_tellOne_194 : decode cX8_tellOne 194 = .ok (.iload_n 3, 1) := by decide +kernel
theorem dX8_tellOne_195 : decode cX8_tellOne 195 = .ok (.iadd, 1) := by decide +kernel
theorem dX8_tellOne_196 : decode cX8_tellOne 196 = .ok (.aload_n 0, 1) := by decide +kernel
theorem dX8_tellOne_197 : decode cX8_tellOne 197 = .ok (.getfield 171, 3) := by decide +kernel
theorem dX8_tellOne_200 : decode cX8_tellOne 200 = .ok (.iastore, 1) := by decide +kernel
theorem dX8_tellOne_201 : decode cX8_tellOne 201 = .ok (.iload_n 3, 1) := by decide +kernel
theorem dX8_tellOne_202 : decode cX8_tellOne 202 = .ok (.iload_n 2, 1) := by decide +kernel
theorem dX8_tellOne_203 : decode cX8_tellOne 203 = .ok (.invokestatic 198, 3) := by decide +kernel
theorem dX8_tellOne_206 : decode cX8_tellOne 206 = .ok (.if_icmp .ge 14, 3) := by decide +kernel
theorem dX8_tellOne_209 : decode cX8_tellOne 209 = .ok (.aload_n 0, 1) := by decide +kernel
theorem dX8_tellOne_210 : decode cX8_tellOne 210 = .ok (.getfield 135, 3) := by decide +kernel
theorem dX8_tellOne_213 : decode cX8_tellOne 213 = .ok (.ifCond .ne 7, 3) := by decide +kernel
theorem dX8_tellOne_216 : decode cX8_tellOne 216 = .ok (.aload_n 0, 1) := by decide +kernel
theorem dX8_tellOne_217 : decode cX8_tellOne 217 = .ok (.invokevirtual 201, 3) := by decide +kernel
theorem dX8_tellOne_220 : decode cX8_tellOne 220 = .ok (.iinc 3 1, 3) := by decide +kernel
theorem dX8_tellOne_223 : decode cX8_tellOne 223 = .ok (.goto (-41), 3) := by decide +kernel
theorem dX8_tellOne_226 : decode cX8_tellOne 226 = .ok (.aload_n 0, 1) := by decide +kernel
theorem dX8_tellOne_227 : decode cX8_tellOne 227 = .ok (.iconst 4, 1) := by decide +kernel
theorem dX8_tellOne_228 : decode cX8_tellOne 228 = .ok (.invokevirtual 191, 3) := by decide +kernel
theorem dX8_tellOne_231 : decode cX8_tellOne 231 = .ok (.aload_n 0, 1) := by decide +kernel
theorem dX8_tellOne_232 : decode cX8_tellOne 232 = .ok (.dup, 1) := by decide +kernel
theorem dX8_tellOne_233 : decode cX8_tellOne 233 = .ok (.getfield 165, 3) := by decide +kernel
theorem dX8_tellOne_236 : decode cX8_tellOne 236 = .ok (.iconst 1, 1) := by decide +kernel
theorem dX8_tellOne_237 : decode cX8_tellOne 237 = .ok (.iadd, 1) := by decide +kernel
theorem dX8_tellOne_238 : decode cX8_tellOne 238 = .ok (.putfield 165, 3) := by decide +kernel
theorem dX8_tellOne_241 : decode cX8_tellOne 241 = .ok (.return_, 1) := by decide +kernel
theorem dX8_emit_0 : decode cX8_emit 0 = .ok (.aload_n 0, 1) := by decide +kernel
theorem dX8_emit_1 : decode cX8_emit 1 = .ok (.getfield 55, 3) := by decide +kernel
theorem dX8_emit_4 : decode cX8_emit 4 = .ok (.aload_n 0, 1) := by decide +kernel
theorem dX8_emit_5 : decode cX8_emit 5 = .ok (.getfield 171, 3) := by decide +kernel
theorem dX8_emit_8 : decode cX8_emit 8 = .ok (.iload_n 1, 1) := by decide +kernel
theorem dX8_emit_9 : decode cX8_emit 9 = .ok (.iastore, 1) := by decide +kernel
theorem dX8_emit_10 : decode cX8_emit 10 = .ok (.aload_n 0, 1) := by decide +kernel
theorem dX8_emit_11 : decode cX8_emit 11 = .ok (.getfield 58, 3) := by decide +kernel
theorem dX8_emit_14 : decode cX8_emit 14 = .ok (.aload_n 0, 1) := by decide +kernel
theorem dX8_emit_15 : decode cX8_emit 15 = .ok (.getfield 171, 3) := by decide +kernel
theorem dX8_emit_18 : decode cX8_emit 18 = .ok (.iload_n 2, 1) := by decide +kernel
theorem dX8_emit_19 : decode cX8_emit 19 = .ok (.iastore, 1) := by decide +kernel
theorem dX8_emit_20 : decode cX8_emit 20 = .ok (.aload_n 0, 1) := by decide +kernel
theorem dX8_emit_21 : decode cX8_emit 21 = .ok (.dup, 1) := by decide +kernel
theorem dX8_emit_22 : decode cX8_emit 22 = .ok (.getfield 171, 3) := by decide +kernel
theorem dX8_emit_25 : decode cX8_emit 25 = .ok (.iconst 1, 1) := by decide +kernel
theorem dX8_emit_26 : decode cX8_emit 26 = .ok (.iadd, 1) := by decide +kernel
theorem dX8_emit_27 : decode cX8_emit 27 = .ok (.putfield 171, 3) := by decide +kernel
theorem dX8_emit_30 : decode cX8_emit 30 = .ok (.return_, 1) := by decide +kernel
theorem dX8_comesOut_0 : decode cX8_comesOut 0 = .ok (.aload_n 0, 1) := by decide +kernel
theorem dX8_comesOut_1 : decode cX8_comesOut 1 = .ok (.getfield 204, 3) := by decide +kernel
theorem dX8_comesOut_4 : decode cX8_comesOut 4 = .ok (.ifCond .le 98, 3) := by decide +kernel
theorem dX8_comesOut_7 : decode cX8_comesOut 7 = .ok (.aload_n 0, 1) := by decide +kernel
theorem dX8_comesOut_8 : decode cX8_comesOut 8 = .ok (.getfield 61, 3) := by decide +kernel
theorem dX8_comesOut_11 : decode cX8_comesOut 11 = .ok (.aload_n 0, 1) := by decide +kernel
theorem dX8_comesOut_12 : decode cX8_comesOut 12 = .ok (.getfield 204, 3) := by decide +kernel
theorem dX8_comesOut_15 : decode cX8_comesOut 15 = .ok (.iconst 1, 1) := by decide +kernel
theorem dX8_comesOut_16 : decode cX8_comesOut 16 = .ok (.isub, 1) := by decide +kernel
theorem dX8_comesOut_17 : decode cX8_comesOut 17 = .ok (.iaload, 1) := by decide +kernel
theorem dX8_comesOut_18 : decode cX8_comesOut 18 = .ok (.istore_n 2, 1) := by decide +kernel
theorem dX8_comesOut_19 : decode cX8_comesOut 19 = .ok (.iload_n 2, 1) := by decide +kernel
theorem dX8_comesOut_20 : decode cX8_comesOut 20 = .ok (.bipush 6, 2) := by decide +kernel
theorem dX8_comesOut_22 : decode cX8_comesOut 22 = .ok (.if_icmp .eq 19, 3) := by decide +kernel
theorem dX8_comesOut_25 : decode cX8_comesOut 25 = .ok (.iload_n 1, 1) := by decide +kernel
theorem dX8_comesOut_26 : decode cX8_comesOut 26 = .ok (.ifCond .eq 16, 3) := by decide +kernel
theorem dX8_comesOut_29 : decode cX8_comesOut 29 = .ok (.iload_n 2, 1) := by decide +kernel
theorem dX8_comesOut_30 : decode cX8_comesOut 30 = .ok (.bipush 8, 2) := by decide +kernel
theorem dX8_comesOut_32 : decode cX8_comesOut 32 = .ok (.if_icmp .eq 9, 3) := by decide +kernel
theorem dX8_comesOut_35 : decode cX8_comesOut 35 = .ok (.iload_n 2, 1) := by decide +kernel
theorem dX8_comesOut_36 : decode cX8_comesOut 36 = .ok (.bipush 9, 2) := by decide +kernel
theorem dX8_comesOut_38 : decode cX8_comesOut 38 = .ok (.if_icmp .ne 4, 3) := by decide +kernel
theorem dX8_comesOut_41 : decode cX8_comesOut 41 = .ok (.return_, 1) := by decide +kernel
theorem dX8_comesOut_42 : decode cX8_comesOut 42 = .ok (.aload_n 0, 1) := by decide +kernel
theorem dX8_comesOut_43 : decode cX8_comesOut 43 = .ok (.dup, 1) := by decide +kernel
theorem dX8_comesOut_44 : decode cX8_comesOut 44 = .ok (.getfield 204, 3) := by decide +kernel
theorem dX8_comesOut_47 : decode cX8_comesOut 47 = .ok (.iconst 1, 1) := by decide +kernel
theorem dX8_comesOut_48 : decode cX8_comesOut 48 = .ok (.isub, 1) := by decide +kernel
theorem dX8_comesOut_49 : decode cX8_comesOut 49 = .ok (.putfield 204, 3) := by decide +kernel
theorem dX8_comesOut_52 : decode cX8_comesOut 52 = .ok (.aload_n 0, 1) := by decide +kernel
theorem dX8_comesOut_53 : decode cX8_comesOut 53 = .ok (.iload_n 2, 1) := by decide +kernel
theorem dX8_comesOut_54 : decode cX8_comesOut 54 = .ok (.bipush 8, 2) := by decide +kernel
theorem dX8_comesOut_56 : decode cX8_comesOut 56 = .ok (.if_icmp .ne 7, 3) := by decide +kernel
theorem dX8_comesOut_59 : decode cX8_comesOut 59 = .ok (.iconst 2, 1) := by decide +kernel
theorem dX8_comesOut_60 : decode cX8_comesOut 60 = .ok (.goto 35, 3) := by decide +kernel
theorem dX8_comesOut_63 : decode cX8_comesOut 63 = .ok (.iload_n 2, 1) := by decide +kernel
theorem dX8_comesOut_64 : decode cX8_comesOut 64 = .ok (.bipush 9, 2) := by decide +kernel
theorem dX8_comesOut_66 : decode cX8_comesOut 66 = .ok (.if_icmp .ne 7, 3) := by decide +kernel
theorem dX8_comesOut_69 : decode cX8_comesOut 69 = .ok (.iconst 3, 1) := by decide +kernel
theorem dX8_comesOut_70 : decode cX8_comesOut 70 = .ok (.goto 25, 3) := by decide +kernel
theorem dX8_comesOut_73 : decode cX8_comesOut 73 = .ok (.iload_n 2, 1) := by decide +kernel
theorem dX8_comesOut_74 : decode cX8_comesOut 74 = .ok (.bipush 10, 2) := by decide +kernel
theorem dX8_comesOut_76 : decode cX8_comesOut 76 = .ok (.if_icmp .ne 7, 3) := by decide +kernel
theorem dX8_comesOut_79 : decode cX8_comesOut 79 = .ok (.iconst 4, 1) := by decide +kernel
theorem dX8_comesOut_80 : decode cX8_comesOut 80 = .ok (.goto 15, 3) := by decide +kernel
theorem dX8_comesOut_83 : decode cX8_comesOut 83 = .ok (.iload_n 2, 1) := by decide +kernel
theorem dX8_comesOut_84 : decode cX8_comesOut 84 = .ok (.bipush 15, 2) := by decide +kernel
theorem dX8_comesOut_86 : decode cX8_comesOut 86 = .ok (.if_icmp .ne 7, 3) := by decide +kernel
theorem dX8_comesOut_89 : decode cX8_comesOut 89 = .ok (.iconst 5, 1) := by decide +kernel
theorem dX8_comesOut_90 : decode cX8_comesOut 90 = .ok (.goto 5, 3) := by decide +kernel
theorem dX8_comesOut_93 : decode cX8_comesOut 93 = .ok (.bipush 6, 2) := by decide +kernel
theorem dX8_comesOut_95 : decode cX8_comesOut 95 = .ok (.iconst 0, 1) := by decide +kernel
theorem dX8_comesOut_96 : decode cX8_comesOut 96 = .ok (.invokevirtual 207, 3) := by decide +kernel
theorem dX8_comesOut_99 : decode cX8_comesOut 99 = .ok (.goto (-99), 3) := by decide +kernel
theorem dX8_comesOut_102 : decode cX8_comesOut 102 = .ok (.return_, 1) := by decide +kernel
theorem dX8_expression_0 : decode cX8_expression 0 = .ok (.aload_n 0, 1) := by decide +kernel
theorem dX8_expression_1 : decode cX8_expression 1 = .ok (.iconst 0, 1) := by decide +kernel
theorem dX8_expression_2 : decode cX8_expression 2 = .ok (.putfield 204, 3) := by decide +kernel
theorem dX8_expression_5 : decode cX8_expression 5 = .ok (.aload_n 0, 1) := by decide +kernel
theorem dX8_expression_6 : decode cX8_expression 6 = .ok (.getfield 162, 3) := by decide +kernel
theorem dX8_expression_9 : decode cX8_expression 9 = .ok (.istore_n 1, 1) := by decide +kernel
theorem dX8_expression_10 : decode cX8_expression 10 = .ok (.iconst 1, 1) := by decide +kernel
theorem dX8_expression_11 : decode cX8_expression 11 = .ok (.istore_n 2, 1) := by decide +kernel
theorem dX8_expression_12 : decode cX8_expression 12 = .ok (.iload_n 2, 1) := by decide +kernel
theorem dX8_expression_13 : decode cX8_expression 13 = .ok (.ifCond .eq 277, 3) := by decide +kernel
theorem dX8_expression_16 : decode cX8_expression 16 = .ok (.aload_n 0, 1) := by decide +kernel
theorem dX8_expression_17 : decode cX8_expression 17 = .ok (.getfield 135, 3) := by decide +kernel
theorem dX8_expression_20 : decode cX8_expression 20 = .ok (.ifCond .ne 270, 3) := by decide +kernel
theorem dX8_expression_23 : decode cX8_expression 23 = .ok (.aload_n 0, 1) := by decide +kernel
theorem dX8_expression_24 : decode cX8_expression 24 = .ok (.bipush 6, 2) := by decide +kernel
theorem dX8_expression_26 : decode cX8_expression 26 = .ok (.invokevirtual 153, 3) := by decide +kernel
theorem dX8_expression_29 : decode cX8_expression 29 = .ok (.ifCond .eq 55, 3) := by decide +kernel
theorem dX8_expression_32 : decode cX8_expression 32 = .ok (.aload_n 0, 1) := by decide +kernel
theorem dX8_expression_33 : decode cX8_expression 33 = .ok (.getfield 162, 3) := by decide +kernel
theorem dX8_expression_36 : decode cX8_expression 36 = .ok (.bipush 6, 2) := by decide +kernel
theorem dX8_expression_38 : decode cX8_expression 38 = .ok (.if_icmp .ne 8, 3) := by decide +kernel
theorem dX8_expression_41 : decode cX8_expression 41 = .ok (.aload_n 0, 1) := by decide +kernel
theorem dX8_expression_42 : decode cX8_expression 42 = .ok (.iconst 2, 1) := by decide +kernel
theorem dX8_expression_43 : decode cX8_expression 43 = .ok (.invokevirtual 150, 3) := by decide +kernel
theorem dX8_expression_46 : decode cX8_expression 46 = .ok (.aload_n 0, 1) := by decide +kernel
theorem dX8_expression_47 : decode cX8_expression 47 = .ok (.dup, 1) := by decide +kernel
theorem dX8_expression_48 : decode cX8_expression 48 = .ok (.getfield 162, 3) := by decide +kernel
theorem dX8_expression_51 : decode cX8_expression 51 = .ok (.iconst 1, 1) := by decide +kernel
theorem dX8_expression_52 : decode cX8_expression 52 = .ok (.iadd, 1) := by decide +kernel
theorem dX8_expression_53 : decode cX8_expression 53 = .ok (.putfield 162, 3) := by decide +kernel
theorem dX8_expression_56 : decode cX8_expression 56 = .ok (.aload_n 0, 1) := by decide +kernel
theorem dX8_expression_57 : decode cX8_expression 57 = .ok (.invokevirtual 156, 3) := by decide +kernel
theorem dX8_expression_60 : decode cX8_expression 60 = .ok (.aload_n 0, 1) := by decide +kernel
theorem dX8_expression_61 : decode cX8_expression 61 = .ok (.getfield 61, 3) := by decide +kernel
theorem dX8_expression_64 : decode cX8_expression 64 = .ok (.aload_n 0, 1) := by decide +kernel
theorem dX8_expression_65 : decode cX8_expression 65 = .ok (.getfield 204, 3) := by decide +kernel
theorem dX8_expression_68 : decode cX8_expression 68 = .ok (.bipush 6, 2) := by decide +kernel
theorem dX8_expression_70 : decode cX8_expression 70 = .ok (.iastore, 1) := by decide +kernel
theorem dX8_expression_71 : decode cX8_expression 71 = .ok (.aload_n 0, 1) := by decide +kernel
theorem dX8_expression_72 : decode cX8_expression 72 = .ok (.dup, 1) := by decide +kernel
theorem dX8_expression_73 : decode cX8_expression 73 = .ok (.getfield 204, 3) := by decide +kernel
theorem dX8_expression_76 : decode cX8_expression 76 = .ok (.iconst 1, 1) := by decide +kernel
theorem dX8_expression_77 : decode cX8_expression 77 = .ok (.iadd, 1) := by decide +kernel
theorem dX8_expression_78 : decode cX8_expression 78 = .ok (.putfield 204, 3) := by decide +kernel
theorem dX8_expression_81 : decode cX8_expression 81 = .ok (.goto (-58), 3) := by decide +kernel
theorem dX8_expression_84 : decode cX8_expression 84 = .ok (.aload_n 0, 1) := by decide +kernel
theorem dX8_expression_85 : decode cX8_expression 85 = .ok (.invokevirtual 210, 3) := by decide +kernel
theorem dX8_expression_88 : decode cX8_expression 88 = .ok (.aload_n 0, 1) := by decide +kernel
theorem dX8_expression_89 : decode cX8_expression 89 = .ok (.getfield 135, 3) := by decide +kernel
theorem dX8_expression_92 : decode cX8_expression 92 = .ok (.ifCond .le 4, 3) := by decide +kernel
theorem dX8_expression_95 : decode cX8_expression 95 = .ok (.return_, 1) := by decide +kernel
theorem dX8_expression_96 : decode cX8_expression 96 = .ok (.aload_n 0, 1) := by decide +kernel
theorem dX8_expression_97 : decode cX8_expression 97 = .ok (.bipush 7, 2) := by decide +kernel
theorem dX8_expression_99 : decode cX8_expression 99 = .ok (.invokevirtual 153, 3) := by decide +kernel
theorem dX8_expression_102 : decode cX8_expression 102 = .ok (.ifCond .eq 43, 3) := by decide +kernel
theorem dX8_expression_105 : decode cX8_expression 105 = .ok (.aload_n 0, 1) := by decide +kernel
theorem dX8_expression_106 : decode cX8_expression 106 = .ok (.getfield 162, 3) := by decide +kernel
theorem dX8_expression_109 : decode cX8_expression 109 = .ok (.iload_n 1, 1) := by decide +kernel
theorem dX8_expression_110 : decode cX8_expression 110 = .ok (.if_icmp .le 35, 3) := by decide +kernel
theorem dX8_expression_113 : decode cX8_expression 113 = .ok (.aload_n 0, 1) := by decide +kernel
theorem dX8_expression_114 : decode cX8_expression 114 = .ok (.iconst 0, 1) := by decide +kernel
theorem dX8_expression_115 : decode cX8_expression 115 = .ok (.invokevirtual 213, 3) := by decide +kernel
theorem dX8_expression_118 : decode cX8_expression 118 = .ok (.aload_n 0, 1) := by decide +kernel
theorem dX8_expression_119 : decode cX8_expression 119 = .ok (.dup, 1) := by decide +kernel
theorem dX8_expression_120 : decode cX8_expression 120 = .ok (.getfield 204, 3) := by decide +kernel
theorem dX8_expression_123 : decode cX8_expression 123 = .ok (.iconst 1, 1) := by decide +kernel
theorem dX8_expression_124 : decode cX8_expression 124 = .ok (.isub, 1) := by decide +kernel
theorem dX8_expression_125 : decode cX8_expression 125 = .ok (.putfield 204, 3) := by decide +kernel
theorem dX8_expression_128 : decode cX8_expression 128 = .ok (.aload_n 0, 1) := by decide +kernel
theorem dX8_expression_129 : decode cX8_expression 129 = .ok (.dup, 1) := by decide +kernel
theorem dX8_expression_130 : decode cX8_expression 130 = .ok (.getfield 162, 3) := by decide +kernel
theorem dX8_expression_133 : decode cX8_expression 133 = .ok (.iconst 1, 1) := by decide +kernel
theorem dX8_expression_134 : decode cX8_expression 134 = .ok (.isub, 1) := by decide +kernel
theorem dX8_expression_135 : decode cX8_expression 135 = .ok (.putfield 162, 3) := by decide +kernel
theorem dX8_expression_138 : decode cX8_expression 138 = .ok (.aload_n 0, 1) := by decide +kernel
theorem dX8_expression_139 : decode cX8_expression 139 = .ok (.invokevirtual 156, 3) := by decide +kernel
theorem dX8_expression_142 : decode cX8_expression 142 = .ok (.goto (-46), 3) := by decide +kernel
theorem dX8_expression_145 : decode cX8_expression 145 = .ok (.aload_n 0, 1) := by decide +kernel
theorem dX8_expression_146 : decode cX8_expression 146 = .ok (.bipush 8, 2) := by decide +kernel
theorem dX8_expression_148 : decode cX8_expression 148 = .ok (.invokevirtual 153, 3) := by decide +kernel
theorem dX8_expression_151 : decode cX8_expression 151 = .ok (.ifCond .ne 39, 3) := by decide +kernel
theorem dX8_expression_154 : decode cX8_expression 154 = .ok (.aload_n 0, 1) := by decide +kernel
theorem dX8_expression_155 : decode cX8_expression 155 = .ok (.bipush 9, 2) := by decide +kernel
theorem dX8_expression_157 : decode cX8_expression 157 = .ok (.invokevirtual 153, 3) := by decide +kernel
theorem dX8_expression_160 : decode cX8_expression 160 = .ok (.ifCond .ne 30, 3) := by decide +kernel
theorem dX8_expression_163 : decode cX8_expression 163 = .ok (.aload_n 0, 1) := by decide +kernel
theorem dX8_expression_164 : decode cX8_expression 164 = .ok (.bipush 10, 2) := by decide +kernel
theorem dX8_expression_166 : decode cX8_expression 166 = .ok (.invokevirtual 153, 3) := by decide +kernel
theorem dX8_expression_169 : decode cX8_expression 169 = .ok (.ifCond .ne 21, 3) := by decide +kernel
theorem dX8_expression_172 : decode cX8_expression 172 = .ok (.aload_n 0, 1) := by decide +kernel
theorem dX8_expression_173 : decode cX8_expression 173 = .ok (.bipush 15, 2) := by decide +kernel
theorem dX8_expression_175 : decode cX8_expression 175 = .ok (.invokevirtual 153, 3) := by decide +kernel
theorem dX8_expression_178 : decode cX8_expression 178 = .ok (.ifCond .ne 12, 3) := by decide +kernel
theorem dX8_expression_181 : decode cX8_expression 181 = .ok (.aload_n 0, 1) := by decide +kernel
theorem dX8_expression_182 : decode cX8_expression 182 = .ok (.bipush 16, 2) := by decide +kernel
theorem dX8_expression_184 : decode cX8_expression 184 = .ok (.invokevirtual 153, 3) := by decide +kernel
theorem dX8_expression_187 : decode cX8_expression 187 = .ok (.ifCond .eq 7, 3) := by decide +kernel
theorem dX8_expression_190 : decode cX8_expression 190 = .ok (.iconst 1, 1) := by decide +kernel
theorem dX8_expression_191 : decode cX8_expression 191 = .ok (.goto 4, 3) := by decide +kernel
theorem dX8_expression_194 : decode cX8_expression 194 = .ok (.iconst 0, 1) := by decide +kernel
theorem dX8_expression_195 : decode cX8_expression 195 = .ok (.istore_n 2, 1) := by decide +kernel
theorem dX8_expression_196 : decode cX8_expression 196 = .ok (.iload_n 2, 1) := by decide +kernel
theorem dX8_expression_197 : decode cX8_expression 197 = .ok (.ifCond .ne 22, 3) := by decide +kernel
theorem dX8_expression_200 : decode cX8_expression 200 = .ok (.aload_n 0, 1) := by decide +kernel
theorem dX8_expression_201 : decode cX8_expression 201 = .ok (.getfield 162, 3) := by decide +kernel
theorem dX8_expression_204 : decode cX8_expression 204 = .ok (.iload_n 1, 1) := by decide +kernel
theorem dX8_expression_205 : decode cX8_expression 205 = .ok (.if_icmp .le 8, 3) := by decide +kernel
theorem dX8_expression_208 : decode cX8_expression 208 = .ok (.aload_n 0, 1) := by decide +kernel
theorem dX8_expression_209 : decode cX8_expression 209 = .ok (.iconst 1, 1) := by decide +kernel
theorem dX8_expression_210 : decode cX8_expression 210 = .ok (.invokevirtual 150, 3) := by decide +kernel
theorem dX8_expression_213 : decode cX8_expression 213 = .ok (.aload_n 0, 1) := by decide +kernel
theorem dX8_expression_214 : decode cX8_expression 214 = .ok (.iconst 0, 1) := by decide +kernel
theorem dX8_expression_215 : decode cX8_expression 215 = .ok (.invokevirtual 213, 3) := by decide +kernel
theorem dX8_expression_218 : decode cX8_expression 218 = .ok (.return_, 1) := by decide +kernel
theorem dX8_expression_219 : decode cX8_expression 219 = .ok (.aload_n 0, 1) := by decide +kernel
theorem dX8_expression_220 : decode cX8_expression 220 = .ok (.aload_n 0, 1) := by decide +kernel
theorem dX8_expression_221 : decode cX8_expression 221 = .ok (.bipush 10, 2) := by decide +kernel
theorem dX8_expression_223 : decode cX8_expression 223 = .ok (.invokevirtual 153, 3) := by decide +kernel
theorem dX8_expression_226 : decode cX8_expression 226 = .ok (.ifCond .ne 21, 3) := by decide +kernel
theorem dX8_expression_229 : decode cX8_expression 229 = .ok (.aload_n 0, 1) := by decide +kernel
theorem dX8_expression_230 : decode cX8_expression 230 = .ok (.bipush 15, 2) := by decide +kernel
theorem dX8_expression_232 : decode cX8_expression 232 = .ok (.invokevirtual 153, 3) := by decide +kernel
theorem dX8_expression_235 : decode cX8_expression 235 = .ok (.ifCond .ne 12, 3) := by decide +kernel
theorem dX8_expression_238 : decode cX8_expression 238 = .ok (.aload_n 0, 1) := by decide +kernel
theorem dX8_expression_239 : decode cX8_expression 239 = .ok (.bipush 16, 2) := by decide +kernel
theorem dX8_expression_241 : decode cX8_expression 241 = .ok (.invokevirtual 153, 3) := by decide +kernel
theorem dX8_expression_244 : decode cX8_expression 244 = .ok (.ifCond .eq 7, 3) := by decide +kernel
theorem dX8_expression_247 : decode cX8_expression 247 = .ok (.iconst 1, 1) := by decide +kernel
theorem dX8_expression_248 : decode cX8_expression 248 = .ok (.goto 4, 3) := by decide +kernel
theorem dX8_expression_251 : decode cX8_expression 251 = .ok (.iconst 0, 1) := by decide +kernel
theorem dX8_expression_252 : decode cX8_expression 252 = .ok (.invokevirtual 213, 3) := by decide +kernel
theorem dX8_expression_255 : decode cX8_expression 255 = .ok (.aload_n 0, 1) := by decide +kernel
theorem dX8_expression_256 : decode cX8_expression 256 = .ok (.getfield 61, 3) := by decide +kernel
theorem dX8_expression_259 : decode cX8_expression 259 = .ok (.aload_n 0, 1) := by decide +kernel
theorem dX8_expression_260 : decode cX8_expression 260 = .ok (.getfield 204, 3) := by decide +kernel
theorem dX8_expression_263 : decode cX8_expression 263 = .ok (.aload_n 0, 1) := by decide +kernel
theorem dX8_expression_264 : decode cX8_expression 264 = .ok (.getfield 20, 3) := by decide +kernel
theorem dX8_expression_267 : decode cX8_expression 267 = .ok (.aload_n 0, 1) := by decide +kernel
theorem dX8_expression_268 : decode cX8_expression 268 = .ok (.getfield 138, 3) := by decide +kernel
theorem dX8_expression_271 : decode cX8_expression 271 = .ok (.iaload, 1) := by decide +kernel
theorem dX8_expression_272 : decode cX8_expression 272 = .ok (.iastore, 1) := by decide +kernel
theorem dX8_expression_273 : decode cX8_expression 273 = .ok (.aload_n 0, 1) := by decide +kernel
theorem dX8_expression_274 : decode cX8_expression 274 = .ok (.dup, 1) := by decide +kernel
theorem dX8_expression_275 : decode cX8_expression 275 = .ok (.getfield 204, 3) := by decide +kernel
theorem dX8_expression_278 : decode cX8_expression 278 = .ok (.iconst 1, 1) := by decide +kernel
theorem dX8_expression_279 : decode cX8_expression 279 = .ok (.iadd, 1) := by decide +kernel
theorem dX8_expression_280 : decode cX8_expression 280 = .ok (.putfield 204, 3) := by decide +kernel
theorem dX8_expression_283 : decode cX8_expression 283 = .ok (.aload_n 0, 1) := by decide +kernel
theorem dX8_expression_284 : decode cX8_expression 284 = .ok (.invokevirtual 156, 3) := by decide +kernel
theorem dX8_expression_287 : decode cX8_expression 287 = .ok (.goto (-275), 3) := by decide +kernel
theorem dX8_expression_290 : decode cX8_expression 290 = .ok (.return_, 1) := by decide +kernel
theorem dX8_unit_0 : decode cX8_unit 0 = .ok (.aload_n 0, 1) := by decide +kernel
theorem dX8_unit_1 : decode cX8_unit 1 = .ok (.iconst 2, 1) := by decide +kernel
theorem dX8_unit_2 : decode cX8_unit 2 = .ok (.invokevirtual 153, 3) := by decide +kernel
theorem dX8_unit_5 : decode cX8_unit 5 = .ok (.ifCond .eq 24, 3) := by decide +kernel
theorem dX8_unit_8 : decode cX8_unit 8 = .ok (.aload_n 0, 1) := by decide +kernel
theorem dX8_unit_9 : decode cX8_unit 9 = .ok (.iconst 0, 1) := by decide +kernel
theorem dX8_unit_10 : decode cX8_unit 10 = .ok (.aload_n 0, 1) := by decide +kernel
theorem dX8_unit_11 : decode cX8_unit 11 = .ok (.getfield 27, 3) := by decide +kernel
theorem dX8_unit_14 : decode cX8_unit 14 = .ok (.aload_n 0, 1) := by decide +kernel
theorem dX8_unit_15 : decode cX8_unit 15 = .ok (.getfield 138, 3) := by decide +kernel
theorem dX8_unit_18 : decode cX8_unit 18 = .ok (.iaload, 1) := by decide +kernel
theorem dX8_unit_19 : decode cX8_unit 19 = .ok (.invokevirtual 207, 3) := by decide +kernel
theorem dX8_unit_22 : decode cX8_unit 22 = .ok (.aload_n 0, 1) := by decide +kernel
theorem dX8_unit_23 : decode cX8_unit 23 = .ok (.invokevirtual 156, 3) := by decide +kernel
theorem dX8_unit_26 : decode cX8_unit 26 = .ok (.goto 67, 3) := by decide +kernel
theorem dX8_unit_29 : decode cX8_unit 29 = .ok (.aload_n 0, 1) := by decide +kernel
theorem dX8_unit_30 : decode cX8_unit 30 = .ok (.getfield 135, 3) := by decide +kernel
theorem dX8_unit_33 : decode cX8_unit 33 = .ok (.ifCond .ne 55, 3) := by decide +kernel
theorem dX8_unit_36 : decode cX8_unit 36 = .ok (.aload_n 0, 1) := by decide +kernel
theorem dX8_unit_37 : decode cX8_unit 37 = .ok (.getfield 20, 3) := by decide +kernel
theorem dX8_unit_40 : decode cX8_unit 40 = .ok (.aload_n 0, 1) := by decide +kernel
theorem dX8_unit_41 : decode cX8_unit 41 = .ok (.getfield 138, 3) := by decide +kernel
theorem dX8_unit_44 : decode cX8_unit 44 = .ok (.iaload, 1) := by decide +kernel
theorem dX8_unit_45 : decode cX8_unit 45 = .ok (.bipush 34, 2) := by decide +kernel
theorem dX8_unit_47 : decode cX8_unit 47 = .ok (.if_icmp .lt 41, 3) := by decide +kernel
theorem dX8_unit_50 : decode cX8_unit 50 = .ok (.aload_n 0, 1) := by decide +kernel
theorem dX8_unit_51 : decode cX8_unit 51 = .ok (.getfield 20, 3) := by decide +kernel
theorem dX8_unit_54 : decode cX8_unit 54 = .ok (.aload_n 0, 1) := by decide +kernel
theorem dX8_unit_55 : decode cX8_unit 55 = .ok (.getfield 138, 3) := by decide +kernel
theorem dX8_unit_58 : decode cX8_unit 58 = .ok (.iaload, 1) := by decide +kernel
theorem dX8_unit_59 : decode cX8_unit 59 = .ok (.bipush 39, 2) := by decide +kernel
theorem dX8_unit_61 : decode cX8_unit 61 = .ok (.if_icmp .gt 27, 3) := by decide +kernel
theorem dX8_unit_64 : decode cX8_unit 64 = .ok (.aload_n 0, 1) := by decide +kernel
theorem dX8_unit_65 : decode cX8_unit 65 = .ok (.iconst 1, 1) := by decide +kernel
theorem dX8_unit_66 : decode cX8_unit 66 = .ok (.aload_n 0, 1) := by decide +kernel
theorem dX8_unit_67 : decode cX8_unit 67 = .ok (.getfield 20, 3) := by decide +kernel
theorem dX8_unit_70 : decode cX8_unit 70 = .ok (.aload_n 0, 1) := by decide +kernel
theorem dX8_unit_71 : decode cX8_unit 71 = .ok (.getfield 138, 3) := by decide +kernel
theorem dX8_unit_74 : decode cX8_unit 74 = .ok (.iaload, 1) := by decide +kernel
theorem dX8_unit_75 : decode cX8_unit 75 = .ok (.bipush 34, 2) := by decide +kernel
theorem dX8_unit_77 : decode cX8_unit 77 = .ok (.isub, 1) := by decide +kernel
theorem dX8_unit_78 : decode cX8_unit 78 = .ok (.invokevirtual 207, 3) := by decide +kernel
theorem dX8_unit_81 : decode cX8_unit 81 = .ok (.aload_n 0, 1) := by decide +kernel
theorem dX8_unit_82 : decode cX8_unit 82 = .ok (.invokevirtual 156, 3) := by decide +kernel
theorem dX8_unit_85 : decode cX8_unit 85 = .ok (.goto 8, 3) := by decide +kernel
theorem dX8_unit_88 : decode cX8_unit 88 = .ok (.aload_n 0, 1) := by decide +kernel
theorem dX8_unit_89 : decode cX8_unit 89 = .ok (.iconst 1, 1) := by decide +kernel
theorem dX8_unit_90 : decode cX8_unit 90 = .ok (.invokevirtual 150, 3) := by decide +kernel
theorem dX8_unit_93 : decode cX8_unit 93 = .ok (.return_, 1) := by decide +kernel
theorem dX8_termOf_0 : decode cX8_termOf 0 = .ok (.iconst 0, 1) := by decide +kernel
theorem dX8_termOf_1 : decode cX8_termOf 1 = .ok (.istore_n 3, 1) := by decide +kernel
theorem dX8_termOf_2 : decode cX8_termOf 2 = .ok (.iload_n 1, 1) := by decide +kernel
theorem dX8_termOf_3 : decode cX8_termOf 3 = .ok (.istore 4, 2) := by decide +kernel
theorem dX8_termOf_5 : decode cX8_termOf 5 = .ok (.iload 4, 2) := by decide +kernel
theorem dX8_termOf_7 : decode cX8_termOf 7 = .ok (.iload_n 2, 1) := by decide +kernel
theorem dX8_termOf_8 : decode cX8_termOf 8 = .ok (.if_icmp .ge 170, 3) := by decide +kernel
theorem dX8_termOf_11 : decode cX8_termOf 11 = .ok (.aload_n 0, 1) := by decide +kernel
theorem dX8_termOf_12 : decode cX8_termOf 12 = .ok (.getfield 55, 3) := by decide +kernel
theorem dX8_termOf_15 : decode cX8_termOf 15 = .ok (.iload 4, 2) := by decide +kernel
theorem dX8_termOf_17 : decode cX8_termOf 17 = .ok (.iaload, 1) := by decide +kernel
theorem dX8_termOf_18 : decode cX8_termOf 18 = .ok (.istore 5, 2) := by decide +kernel
theorem dX8_termOf_20 : decode cX8_termOf 20 = .ok (.iload 5, 2) := by decide +kernel
theorem dX8_termOf_22 : decode cX8_termOf 22 = .ok (.iconst 2, 1) := by decide +kernel
theorem dX8_termOf_23 : decode cX8_termOf 23 = .ok (.if_icmp .ge 42, 3) := by decide +kernel
theorem dX8_termOf_26 : decode cX8_termOf 26 = .ok (.aload_n 0, 1) := by decide +kernel
theorem dX8_termOf_27 : decode cX8_termOf 27 = .ok (.getfield 67, 3) := by decide +kernel
theorem dX8_termOf_30 : decode cX8_termOf 30 = .ok (.iload_n 3, 1) := by decide +kernel
theorem dX8_termOf_31 : decode cX8_termOf 31 = .ok (.iload 5, 2) := by decide +kernel
theorem dX8_termOf_33 : decode cX8_termOf 33 = .ok (.ifCond .ne 13, 3) := by decide +kernel
theorem dX8_termOf_36 : decode cX8_termOf 36 = .ok (.aload_n 0, 1) := by decide +kernel
theorem dX8_termOf_37 : decode cX8_termOf 37 = .ok (.getfield 58, 3) := by decide +kernel
theorem dX8_termOf_40 : decode cX8_termOf 40 = .ok (.iload 4, 2) := by decide +kernel
theorem dX8_termOf_42 : decode cX8_termOf 42 = .ok (.iaload, 1) := by decide +kernel
theorem dX8_termOf_43 : decode cX8_termOf 43 = .ok (.goto 15, 3) := by decide +kernel
theorem dX8_termOf_46 : decode cX8_termOf 46 = .ok (.aload_n 0, 1) := by decide +kernel
theorem dX8_termOf_47 : decode cX8_termOf 47 = .ok (.getfield 64, 3) := by decide +kernel
theorem dX8_termOf_50 : decode cX8_termOf 50 = .ok (.aload_n 0, 1) := by decide +kernel
theorem dX8_termOf_51 : decode cX8_termOf 51 = .ok (.getfield 58, 3) := by decide +kernel
theorem dX8_termOf_54 : decode cX8_termOf 54 = .ok (.iload 4, 2) := by decide +kernel
theorem dX8_termOf_56 : decode cX8_termOf 56 = .ok (.iaload, 1) := by decide +kernel
theorem dX8_termOf_57 : decode cX8_termOf 57 = .ok (.iaload, 1) := by decide +kernel
theorem dX8_termOf_58 : decode cX8_termOf 58 = .ok (.iastore, 1) := by decide +kernel
theorem dX8_termOf_59 : decode cX8_termOf 59 = .ok (.iinc 3 1, 3) := by decide +kernel
theorem dX8_termOf_62 : decode cX8_termOf 62 = .ok (.goto 110, 3) := by decide +kernel
theorem dX8_termOf_65 : decode cX8_termOf 65 = .ok (.iinc 3 (-1), 3) := by decide +kernel
theorem dX8_termOf_68 : decode cX8_termOf 68 = .ok (.aload_n 0, 1) := by decide +kernel
theorem dX8_termOf_69 : decode cX8_termOf 69 = .ok (.getfield 67, 3) := by decide +kernel
theorem dX8_termOf_72 : decode cX8_termOf 72 = .ok (.iload_n 3, 1) := by decide +kernel
theorem dX8_termOf_73 : decode cX8_termOf 73 = .ok (.iconst 1, 1) := by decide +kernel
theorem dX8_termOf_74 : decode cX8_termOf 74 = .ok (.isub, 1) := by decide +kernel
theorem dX8_termOf_75 : decode cX8_termOf 75 = .ok (.iaload, 1) := by decide +kernel
theorem dX8_termOf_76 : decode cX8_termOf 76 = .ok (.istore 6, 2) := by decide +kernel
theorem dX8_termOf_78 : decode cX8_termOf 78 = .ok (.aload_n 0, 1) := by decide +kernel
theorem dX8_termOf_79 : decode cX8_termOf 79 = .ok (.getfield 67, 3) := by decide +kernel
theorem dX8_termOf_82 : decode cX8_termOf 82 = .ok (.iload_n 3, 1) := by decide +kernel
theorem dX8_termOf_83 : decode cX8_termOf 83 = .ok (.iaload, 1) := by decide +kernel
theorem dX8_termOf_84 : decode cX8_termOf 84 = .ok (.istore 7, 2) := by decide +kernel
theorem dX8_termOf_86 : decode cX8_termOf 86 = .ok (.iload 5, 2) := by decide +kernel
theorem dX8_termOf_88 : decode cX8_termOf 88 = .ok (.iconst 4, 1) := by decide +kernel
theorem dX8_termOf_89 : decode cX8_termOf 89 = .ok (.if_icmp .le 42, 3) := by decide +kernel
theorem dX8_termOf_92 : decode cX8_termOf 92 = .ok (.aload_n 0, 1) := by decide +kernel
theorem dX8_termOf_93 : decode cX8_termOf 93 = .ok (.getfield 67, 3) := by decide +kernel
theorem dX8_termOf_96 : decode cX8_termOf 96 = .ok (.iload_n 3, 1) := by decide +kernel
theorem dX8_termOf_97 : decode cX8_termOf 97 = .ok (.iconst 1, 1) := by decide +kernel
theorem dX8_termOf_98 : decode cX8_termOf 98 = .ok (.isub, 1) := by decide +kernel
theorem dX8_termOf_99 : decode cX8_termOf 99 = .ok (.iload 7, 2) := by decide +kernel
theorem dX8_termOf_101 : decode cX8_termOf 101 = .ok (.ifCond .ne 7, 3) := by decide +kernel
theorem dX8_termOf_104 : decode cX8_termOf 104 = .ok (.iconst 0, 1) := by decide +kernel
theorem dX8_termOf_105 : decode cX8_termOf 105 = .ok (.goto 22, 3) := by decide +kernel
theorem dX8_termOf_108 : decode cX8_termOf 108 = .ok (.iload 5, 2) := by decide +kernel
theorem dX8_termOf_110 : decode cX8_termOf 110 = .ok (.iconst 5, 1) := by decide +kernel
theorem dX8_termOf_111 : decode cX8_termOf 111 = .ok (.if_icmp .ne 11, 3) := by decide +kernel
theorem dX8_termOf_114 : decode cX8_termOf 114 = .ok (.iload 6, 2) := by decide +kernel
theorem dX8_termOf_116 : decode cX8_termOf 116 = .ok (.iload 7, 2) := by decide +kernel
theorem dX8_termOf_118 : decode cX8_termOf 118 = .ok (.idiv, 1) := by decide +kernel
theorem dX8_termOf_119 : decode cX8_termOf 119 = .ok (.goto 8, 3) := by decide +kernel
theorem dX8_termOf_122 : decode cX8_termOf 122 = .ok (.iload 6, 2) := by decide +kernel
theorem dX8_termOf_124 : decode cX8_termOf 124 = .ok (.iload 7, 2) := by decide +kernel
theorem dX8_termOf_126 : decode cX8_termOf 126 = .ok (.irem, 1) := by decide +kernel
theorem dX8_termOf_127 : decode cX8_termOf 127 = .ok (.iastore, 1) := by decide +kernel
theorem dX8_termOf_128 : decode cX8_termOf 128 = .ok (.goto 44, 3) := by decide +kernel
theorem dX8_termOf_131 : decode cX8_termOf 131 = .ok (.aload_n 0, 1) := by decide +kernel
theorem dX8_termOf_132 : decode cX8_termOf 132 = .ok (.getfield 67, 3) := by decide +kernel
theorem dX8_termOf_135 : decode cX8_termOf 135 = .ok (.iload_n 3, 1) := by decide +kernel
theorem dX8_termOf_136 : decode cX8_termOf 136 = .ok (.iconst 1, 1) := by decide +kernel
theorem dX8_termOf_137 : decode cX8_termOf 137 = .ok (.isub, 1) := by decide +kernel
theorem dX8_termOf_138 : decode cX8_termOf 138 = .ok (.iload 5, 2) := by decide +kernel
theorem dX8_termOf_140 : decode cX8_termOf 140 = .ok (.iconst 2, 1) := by decide +kernel
theorem dX8_termOf_141 : decode cX8_termOf 141 = .ok (.if_icmp .ne 11, 3) := by decide +kernel
theorem dX8_termOf_144 : decode cX8_termOf 144 = .ok (.iload 6, 2) := by decide +kernel
theorem dX8_termOf_146 : decode cX8_termOf 146 = .ok (.iload 7, 2) := by decide +kernel
theorem dX8_termOf_148 : decode cX8_termOf 148 = .ok (.iadd, 1) := by decide +kernel
theorem dX8_termOf_149 : decode cX8_termOf 149 = .ok (.goto 22, 3) := by decide +kernel
theorem dX8_termOf_152 : decode cX8_termOf 152 = .ok (.iload 5, 2) := by decide +kernel
theorem dX8_termOf_154 : decode cX8_termOf 154 = .ok (.iconst 3, 1) := by decide +kernel
theorem dX8_termOf_155 : decode cX8_termOf 155 = .ok (.if_icmp .ne 11, 3) := by decide +kernel
theorem dX8_termOf_158 : decode cX8_termOf 158 = .ok (.iload 6, 2) := by decide +kernel
theorem dX8_termOf_160 : decode cX8_termOf 160 = .ok (.iload 7, 2) := by decide +kernel
theorem dX8_termOf_162 : decode cX8_termOf 162 = .ok (.isub, 1) := by decide +kernel
theorem dX8_termOf_163 : decode cX8_termOf 163 = .ok (.goto 8, 3) := by decide +kernel
theorem dX8_termOf_166 : decode cX8_termOf 166 = .ok (.iload 6, 2) := by decide +kernel
theorem dX8_termOf_168 : decode cX8_termOf 168 = .ok (.iload 7, 2) := by decide +kernel
theorem dX8_termOf_170 : decode cX8_termOf 170 = .ok (.imul, 1) := by decide +kernel
theorem dX8_termOf_171 : decode cX8_termOf 171 = .ok (.iastore, 1) := by decide +kernel
theorem dX8_termOf_172 : decode cX8_termOf 172 = .ok (.iinc 4 1, 3) := by decide +kernel
theorem dX8_termOf_175 : decode cX8_termOf 175 = .ok (.goto (-170), 3) := by decide +kernel
theorem dX8_termOf_178 : decode cX8_termOf 178 = .ok (.aload_n 0, 1) := by decide +kernel
theorem dX8_termOf_179 : decode cX8_termOf 179 = .ok (.getfield 67, 3) := by decide +kernel
theorem dX8_termOf_182 : decode cX8_termOf 182 = .ok (.iconst 0, 1) := by decide +kernel
theorem dX8_termOf_183 : decode cX8_termOf 183 = .ok (.iaload, 1) := by decide +kernel
theorem dX8_termOf_184 : decode cX8_termOf 184 = .ok (.ireturn, 1) := by decide +kernel
theorem dX8_runs_0 : decode cX8_runs 0 = .ok (.iconst 0, 1) := by decide +kernel
theorem dX8_runs_1 : decode cX8_runs 1 = .ok (.istore_n 1, 1) := by decide +kernel
theorem dX8_runs_2 : decode cX8_runs 2 = .ok (.iconst 0, 1) := by decide +kernel
theorem dX8_runs_3 : decode cX8_runs 3 = .ok (.istore_n 2, 1) := by decide +kernel
theorem dX8_runs_4 : decode cX8_runs 4 = .ok (.iconst 0, 1) := by decide +kernel
theorem dX8_runs_5 : decode cX8_runs 5 = .ok (.istore_n 3, 1) := by decide +kernel
theorem dX8_runs_6 : decode cX8_runs 6 = .ok (.iload_n 1, 1) := by decide +kernel
theorem dX8_runs_7 : decode cX8_runs 7 = .ok (.aload_n 0, 1) := by decide +kernel
theorem dX8_runs_8 : decode cX8_runs 8 = .ok (.getfield 165, 3) := by decide +kernel
theorem dX8_runs_11 : decode cX8_runs 11 = .ok (.if_icmp .ge 254, 3) := by decide +kernel
theorem dX8_runs_14 : decode cX8_runs 14 = .ok (.aload_n 0, 1) := by decide +kernel
theorem dX8_runs_15 : decode cX8_runs 15 = .ok (.getfield 73, 3) := by decide +kernel
theorem dX8_runs_18 : decode cX8_runs 18 = .ok (.bipush 6, 2) := by decide +kernel
theorem dX8_runs_20 : decode cX8_runs 20 = .ok (.iaload, 1) := by decide +kernel
theorem dX8_runs_21 : decode cX8_runs 21 = .ok (.sipush 300, 3) := by decide +kernel
theorem dX8_runs_24 : decode cX8_runs 24 = .ok (.if_icmp .ge 241, 3) := by decide +kernel
theorem dX8_runs_27 : decode cX8_runs 27 = .ok (.aload_n 0, 1) := by decide +kernel
theorem dX8_runs_28 : decode cX8_runs 28 = .ok (.getfield 40, 3) := by decide +kernel
theorem dX8_runs_31 : decode cX8_runs 31 = .ok (.iload_n 1, 1) := by decide +kernel
theorem dX8_runs_32 : decode cX8_runs 32 = .ok (.iaload, 1) := by decide +kernel
theorem dX8_runs_33 : decode cX8_runs 33 = .ok (.istore 4, 2) := by decide +kernel
theorem dX8_runs_35 : decode cX8_runs 35 = .ok (.iload 4, 2) := by decide +kernel
theorem dX8_runs_37 : decode cX8_runs 37 = .ok (.bipush 10, 2) := by decide +kernel
theorem dX8_runs_39 : decode cX8_runs 39 = .ok (.if_icmp .ne 35, 3) := by decide +kernel
theorem dX8_runs_42 : decode cX8_runs 42 = .ok (.aload_n 0, 1) := by decide +kernel
theorem dX8_runs_43 : decode cX8_runs 43 = .ok (.getfield 46, 3) := by decide +kernel
theorem dX8_runs_46 : decode cX8_runs 46 = .ok (.iload_n 1, 1) := by decide +kernel
theorem dX8_runs_47 : decode cX8_runs 47 = .ok (.iaload, 1) := by decide +kernel
theorem dX8_runs_48 : decode cX8_runs 48 = .ok (.ifCond .ne 13, 3) := by decide +kernel
theorem dX8_runs_51 : decode cX8_runs 51 = .ok (.aload_n 0, 1) := by decide +kernel
theorem dX8_runs_52 : decode cX8_runs 52 = .ok (.getfield 49, 3) := by decide +kernel
theorem dX8_runs_55 : decode cX8_runs 55 = .ok (.iload_n 1, 1) := by decide +kernel
theorem dX8_runs_56 : decode cX8_runs 56 = .ok (.iaload, 1) := by decide +kernel
theorem dX8_runs_57 : decode cX8_runs 57 = .ok (.istore_n 1, 1) := by decide +kernel
theorem dX8_runs_58 : decode cX8_runs 58 = .ok (.goto 201, 3) := by decide +kernel
theorem dX8_runs_61 : decode cX8_runs 61 = .ok (.aload_n 0, 1) := by decide +kernel
theorem dX8_runs_62 : decode cX8_runs 62 = .ok (.getfield 70, 3) := by decide +kernel
theorem dX8_runs_65 : decode cX8_runs 65 = .ok (.iload_n 2, 1) := by decide +kernel
theorem dX8_runs_66 : decode cX8_runs 66 = .ok (.iconst 0, 1) := by decide +kernel
theorem dX8_runs_67 : decode cX8_runs 67 = .ok (.iastore, 1) := by decide +kernel
theorem dX8_runs_68 : decode cX8_runs 68 = .ok (.iinc 2 1, 3) := by decide +kernel
theorem dX8_runs_71 : decode cX8_runs 71 = .ok (.goto 188, 3) := by decide +kernel
theorem dX8_runs_74 : decode cX8_runs 74 = .ok (.iload 4, 2) := by decide +kernel
theorem dX8_runs_76 : decode cX8_runs 76 = .ok (.bipush 11, 2) := by decide +kernel
theorem dX8_runs_78 : decode cX8_runs 78 = .ok (.if_icmp .ne 53, 3) := by decide +kernel
theorem dX8_runs_81 : decode cX8_runs 81 = .ok (.aload_n 0, 1) := by decide +kernel
theorem dX8_runs_82 : decode cX8_runs 82 = .ok (.getfield 70, 3) := by decide +kernel
theorem dX8_runs_85 : decode cX8_runs 85 = .ok (.iload_n 2, 1) := by decide +kernel
theorem dX8_runs_86 : decode cX8_runs 86 = .ok (.iconst 1, 1) := by decide +kernel
theorem dX8_runs_87 : decode cX8_runs 87 = .ok (.isub, 1) := by decide +kernel
theorem dX8_runs_88 : decode cX8_runs 88 = .ok (.dup2, 1) := by decide +kernel
theorem dX8_runs_89 : decode cX8_runs 89 = .ok (.iaload, 1) := by decide +kernel
theorem dX8_runs_90 : decode cX8_runs 90 = .ok (.iconst 1, 1) := by decide +kernel
theorem dX8_runs_91 : decode cX8_runs 91 = .ok (.iadd, 1) := by decide +kernel
theorem dX8_runs_92 : decode cX8_runs 92 = .ok (.iastore, 1) := by decide +kernel
theorem dX8_runs_93 : decode cX8_runs 93 = .ok (.aload_n 0, 1) := by decide +kernel
theorem dX8_runs_94 : decode cX8_runs 94 = .ok (.getfield 70, 3) := by decide +kernel
theorem dX8_runs_97 : decode cX8_runs 97 = .ok (.iload_n 2, 1) := by decide +kernel
theorem dX8_runs_98 : decode cX8_runs 98 = .ok (.iconst 1, 1) := by decide +kernel
theorem dX8_runs_99 : decode cX8_runs 99 = .ok (.isub, 1) := by decide +kernel
theorem dX8_runs_100 : decode cX8_runs 100 = .ok (.iaload, 1) := by decide +kernel
theorem dX8_runs_101 : decode cX8_runs 101 = .ok (.aload_n 0, 1) := by decide +kernel
theorem dX8_runs_102 : decode cX8_runs 102 = .ok (.getfield 46, 3) := by decide +kernel
theorem dX8_runs_105 : decode cX8_runs 105 = .ok (.aload_n 0, 1) := by decide +kernel
theorem dX8_runs_106 : decode cX8_runs 106 = .ok (.getfield 49, 3) := by decide +kernel
theorem dX8_runs_109 : decode cX8_runs 109 = .ok (.iload_n 1, 1) := by decide +kernel
theorem dX8_runs_110 : decode cX8_runs 110 = .ok (.iaload, 1) := by decide +kernel
theorem dX8_runs_111 : decode cX8_runs 111 = .ok (.iaload, 1) := by decide +kernel
theorem dX8_runs_112 : decode cX8_runs 112 = .ok (.if_icmp .ge 13, 3) := by decide +kernel
theorem dX8_runs_115 : decode cX8_runs 115 = .ok (.aload_n 0, 1) := by decide +kernel
theorem dX8_runs_116 : decode cX8_runs 116 = .ok (.getfield 49, 3) := by decide +kernel
theorem dX8_runs_119 : decode cX8_runs 119 = .ok (.iload_n 1, 1) := by decide +kernel
theorem dX8_runs_120 : decode cX8_runs 120 = .ok (.iaload, 1) := by decide +kernel
theorem dX8_runs_121 : decode cX8_runs 121 = .ok (.istore_n 1, 1) := by decide +kernel
theorem dX8_runs_122 : decode cX8_runs 122 = .ok (.goto 137, 3) := by decide +kernel
theorem dX8_runs_125 : decode cX8_runs 125 = .ok (.iinc 2 (-1), 3) := by decide +kernel
theorem dX8_runs_128 : decode cX8_runs 128 = .ok (.goto 131, 3) := by decide +kernel
theorem dX8_runs_131 : decode cX8_runs 131 = .ok (.aload_n 0, 1) := by decide +kernel
theorem dX8_runs_132 : decode cX8_runs 132 = .ok (.getfield 73, 3) := by decide +kernel
theorem dX8_runs_135 : decode cX8_runs 135 = .ok (.bipush 6, 2) := by decide +kernel
theorem dX8_runs_137 : decode cX8_runs 137 = .ok (.dup2, 1) := by decide +kernel
theorem dX8_runs_138 : decode cX8_runs 138 = .ok (.iaload, 1) := by decide +kernel
theorem dX8_runs_139 : decode cX8_runs 139 = .ok (.iconst 1, 1) := by decide +kernel
theorem dX8_runs_140 : decode cX8_runs 140 = .ok (.iadd, 1) := by decide +kernel
theorem dX8_runs_141 : decode cX8_runs 141 = .ok (.iastore, 1) := by decide +kernel
theorem dX8_runs_142 : decode cX8_runs 142 = .ok (.aload_n 0, 1) := by decide +kernel
theorem dX8_runs_143 : decode cX8_runs 143 = .ok (.getfield 64, 3) := by decide +kernel
theorem dX8_runs_146 : decode cX8_runs 146 = .ok (.iconst 0, 1) := by decide +kernel
theorem dX8_runs_147 : decode cX8_runs 147 = .ok (.iload_n 2, 1) := by decide +kernel
theorem dX8_runs_148 : decode cX8_runs 148 = .ok (.ifCond .le 14, 3) := by decide +kernel
theorem dX8_runs_151 : decode cX8_runs 151 = .ok (.aload_n 0, 1) := by decide +kernel
theorem dX8_runs_152 : decode cX8_runs 152 = .ok (.getfield 70, 3) := by decide +kernel
theorem dX8_runs_155 : decode cX8_runs 155 = .ok (.iload_n 2, 1) := by decide +kernel
theorem dX8_runs_156 : decode cX8_runs 156 = .ok (.iconst 1, 1) := by decide +kernel
theorem dX8_runs_157 : decode cX8_runs 157 = .ok (.isub, 1) := by decide +kernel
theorem dX8_runs_158 : decode cX8_runs 158 = .ok (.iaload, 1) := by decide +kernel
theorem dX8_runs_159 : decode cX8_runs 159 = .ok (.goto 4, 3) := by decide +kernel
theorem dX8_runs_162 : decode cX8_runs 162 = .ok (.iconst 0, 1) := by decide +kernel
theorem dX8_runs_163 : decode cX8_runs 163 = .ok (.iastore, 1) := by decide +kernel
theorem dX8_runs_164 : decode cX8_runs 164 = .ok (.aload_n 0, 1) := by decide +kernel
theorem dX8_runs_165 : decode cX8_runs 165 = .ok (.getfield 64, 3) := by decide +kernel
theorem dX8_runs_168 : decode cX8_runs 168 = .ok (.iconst 1, 1) := by decide +kernel
theorem dX8_runs_169 : decode cX8_runs 169 = .ok (.iload_n 2, 1) := by decide +kernel
theorem dX8_runs_170 : decode cX8_runs 170 = .ok (.iconst 1, 1) := by decide +kernel
theorem dX8_runs_171 : decode cX8_runs 171 = .ok (.if_icmp .le 14, 3) := by decide +kernel
theorem dX8_runs_174 : decode cX8_runs 174 = .ok (.aload_n 0, 1) := by decide +kernel
theorem dX8_runs_175 : decode cX8_runs 175 = .ok (.getfield 70, 3) := by decide +kernel
theorem dX8_runs_178 : decode cX8_runs 178 = .ok (.iload_n 2, 1) := by decide +kernel
theorem dX8_runs_179 : decode cX8_runs 179 = .ok (.iconst 2, 1) := by decide +kernel
theorem dX8_runs_180 : decode cX8_runs 180 = .ok (.isub, 1) := by decide +kernel
theorem dX8_runs_181 : decode cX8_runs 181 = .ok (.iaload, 1) := by decide +kernel
theorem dX8_runs_182 : decode cX8_runs 182 = .ok (.goto 4, 3) := by decide +kernel
theorem dX8_runs_185 : decode cX8_runs 185 = .ok (.iconst 0, 1) := by decide +kernel
theorem dX8_runs_186 : decode cX8_runs 186 = .ok (.iastore, 1) := by decide +kernel
theorem dX8_runs_187 : decode cX8_runs 187 = .ok (.aload_n 0, 1) := by decide +kernel
theorem dX8_runs_188 : decode cX8_runs 188 = .ok (.getfield 64, 3) := by decide +kernel
theorem dX8_runs_191 : decode cX8_runs 191 = .ok (.iconst 2, 1) := by decide +kernel
theorem dX8_runs_192 : decode cX8_runs 192 = .ok (.aload_n 0, 1) := by decide +kernel
theorem dX8_runs_193 : decode cX8_runs 193 = .ok (.aload_n 0, 1) := by decide +kernel
theorem dX8_runs_194 : decode cX8_runs 194 = .ok (.getfield 73, 3) := by decide +kernel
theorem dX8_runs_197 : decode cX8_runs 197 = .ok (.iconst 3, 1) := by decide +kernel
theorem dX8_runs_198 : decode cX8_runs 198 = .ok (.iaload, 1) := by decide +kernel
theorem dX8_runs_199 : decode cX8_runs 199 = .ok (.invokevirtual 217, 3) := by decide +kernel
theorem dX8_runs_202 : decode cX8_runs 202 = .ok (.iastore, 1) := by decide +kernel
theorem dX8_runs_203 : decode cX8_runs 203 = .ok (.aload_n 0, 1) := by decide +kernel
theorem dX8_runs_204 : decode cX8_runs 204 = .ok (.getfield 64, 3) := by decide +kernel
theorem dX8_runs_207 : decode cX8_runs 207 = .ok (.iconst 3, 1) := by decide +kernel
theorem dX8_runs_208 : decode cX8_runs 208 = .ok (.aload_n 0, 1) := by decide +kernel
theorem dX8_runs_209 : decode cX8_runs 209 = .ok (.getfield 73, 3) := by decide +kernel
theorem dX8_runs_212 : decode cX8_runs 212 = .ok (.iconst 3, 1) := by decide +kernel
theorem dX8_runs_213 : decode cX8_runs 213 = .ok (.iaload, 1) := by decide +kernel
theorem dX8_runs_214 : decode cX8_runs 214 = .ok (.iastore, 1) := by decide +kernel
theorem dX8_runs_215 : decode cX8_runs 215 = .ok (.aload_n 0, 1) := by decide +kernel
theorem dX8_runs_216 : decode cX8_runs 216 = .ok (.getfield 64, 3) := by decide +kernel
theorem dX8_runs_219 : decode cX8_runs 219 = .ok (.iconst 4, 1) := by decide +kernel
theorem dX8_runs_220 : decode cX8_runs 220 = .ok (.aload_n 0, 1) := by decide +kernel
theorem dX8_runs_221 : decode cX8_runs 221 = .ok (.getfield 73, 3) := by decide +kernel
theorem dX8_runs_224 : decode cX8_runs 224 = .ok (.iconst 5, 1) := by decide +kernel
theorem dX8_runs_225 : decode cX8_runs 225 = .ok (.iaload, 1) := by decide +kernel
theorem dX8_runs_226 : decode cX8_runs 226 = .ok (.iastore, 1) := by decide +kernel
theorem dX8_runs_227 : decode cX8_runs 227 = .ok (.aload_n 0, 1) := by decide +kernel
theorem dX8_runs_228 : decode cX8_runs 228 = .ok (.getfield 64, 3) := by decide +kernel
theorem dX8_runs_231 : decode cX8_runs 231 = .ok (.iconst 5, 1) := by decide +kernel
theorem dX8_runs_232 : decode cX8_runs 232 = .ok (.iload_n 3, 1) := by decide +kernel
theorem dX8_runs_233 : decode cX8_runs 233 = .ok (.iastore, 1) := by decide +kernel
theorem dX8_runs_234 : decode cX8_runs 234 = .ok (.aload_n 0, 1) := by decide +kernel
theorem dX8_runs_235 : decode cX8_runs 235 = .ok (.iload 4, 2) := by decide +kernel
theorem dX8_runs_237 : decode cX8_runs 237 = .ok (.aload_n 0, 1) := by decide +kernel
theorem dX8_runs_238 : decode cX8_runs 238 = .ok (.iload_n 1, 1) := by decide +kernel
theorem dX8_runs_239 : decode cX8_runs 239 = .ok (.iconst 0, 1) := by decide +kernel
theorem dX8_runs_240 : decode cX8_runs 240 = .ok (.invokevirtual 220, 3) := by decide +kernel
theorem dX8_runs_243 : decode cX8_runs 243 = .ok (.aload_n 0, 1) := by decide +kernel
theorem dX8_runs_244 : decode cX8_runs 244 = .ok (.iload_n 1, 1) := by decide +kernel
theorem dX8_runs_245 : decode cX8_runs 245 = .ok (.iconst 1, 1) := by decide +kernel
theorem dX8_runs_246 : decode cX8_runs 246 = .ok (.invokevirtual 220, 3) := by decide +kernel
theorem dX8_runs_249 : decode cX8_runs 249 = .ok (.aload_n 0, 1) := by decide +kernel
theorem dX8_runs_250 : decode cX8_runs 250 = .ok (.iload_n 1, 1) := by decide +kernel
theorem dX8_runs_251 : decode cX8_runs 251 = .ok (.iconst 2, 1) := by decide +kernel
theorem dX8_runs_252 : decode cX8_runs 252 = .ok (.invokevirtual 220, 3) := by decide +kernel
theorem dX8_runs_255 : decode cX8_runs 255 = .ok (.invokevirtual 223, 3) := by decide +kernel
theorem dX8_runs_258 : decode cX8_runs 258 = .ok (.istore_n 3, 1) := by decide +kernel
theorem dX8_runs_259 : decode cX8_runs 259 = .ok (.iinc 1 1, 3) := by decide +kernel
theorem dX8_runs_262 : decode cX8_runs 262 = .ok (.goto (-256), 3) := by decide +kernel
theorem dX8_runs_265 : decode cX8_runs 265 = .ok (.return_, 1) := by decide +kernel
theorem dX8_termTold_0 : decode cX8_termTold 0 = .ok (.iload_n 2, 1) := by decide +kernel
theorem dX8_termTold_1 : decode cX8_termTold 1 = .ok (.aload_n 0, 1) := by decide +kernel
theorem dX8_termTold_2 : decode cX8_termTold 2 = .ok (.getfield 40, 3) := by decide +kernel
theorem dX8_termTold_5 : decode cX8_termTold 5 = .ok (.iload_n 1, 1) := by decide +kernel
theorem dX8_termTold_6 : decode cX8_termTold 6 = .ok (.iaload, 1) := by decide +kernel
theorem dX8_termTold_7 : decode cX8_termTold 7 = .ok (.invokestatic 198, 3) := by decide +kernel
theorem dX8_termTold_10 : decode cX8_termTold 10 = .ok (.if_icmp .ge 32, 3) := by decide +kernel
theorem dX8_termTold_13 : decode cX8_termTold 13 = .ok (.aload_n 0, 1) := by decide +kernel
theorem dX8_termTold_14 : decode cX8_termTold 14 = .ok (.aload_n 0, 1) := by decide +kernel
theorem dX8_termTold_15 : decode cX8_termTold 15 = .ok (.getfield 43, 3) := by decide +kernel
theorem dX8_termTold_18 : decode cX8_termTold 18 = .ok (.iconst 4, 1) := by decide +kernel
theorem dX8_termTold_19 : decode cX8_termTold 19 = .ok (.iload_n 1, 1) := by decide +kernel
theorem dX8_termTold_20 : decode cX8_termTold 20 = .ok (.imul, 1) := by decide +kernel
theorem dX8_termTold_21 : decode cX8_termTold 21 = .ok (.iload_n 2, 1) := by decide +kernel
theorem dX8_termTold_22 : decode cX8_termTold 22 = .ok (.iadd, 1) := by decide +kernel
theorem dX8_termTold_23 : decode cX8_termTold 23 = .ok (.iaload, 1) := by decide +kernel
theorem dX8_termTold_24 : decode cX8_termTold 24 = .ok (.aload_n 0, 1) := by decide +kernel
theorem dX8_termTold_25 : decode cX8_termTold 25 = .ok (.getfield 43, 3) := by decide +kernel
theorem dX8_termTold_28 : decode cX8_termTold 28 = .ok (.iconst 4, 1) := by decide +kernel
theorem dX8_termTold_29 : decode cX8_termTold 29 = .ok (.iload_n 1, 1) := by decide +kernel
theorem dX8_termTold_30 : decode cX8_termTold 30 = .ok (.imul, 1) := by decide +kernel
theorem dX8_termTold_31 : decode cX8_termTold 31 = .ok (.iload_n 2, 1) := by decide +kernel
theorem dX8_termTold_32 : decode cX8_termTold 32 = .ok (.iadd, 1) := by decide +kernel
theorem dX8_termTold_33 : decode cX8_termTold 33 = .ok (.iconst 1, 1) := by decide +kernel
theorem dX8_termTold_34 : decode cX8_termTold 34 = .ok (.iadd, 1) := by decide +kernel
theorem dX8_termTold_35 : decode cX8_termTold 35 = .ok (.iaload, 1) := by decide +kernel
theorem dX8_termTold_36 : decode cX8_termTold 36 = .ok (.invokevirtual 226, 3) := by decide +kernel
theorem dX8_termTold_39 : decode cX8_termTold 39 = .ok (.goto 4, 3) := by decide +kernel
theorem dX8_termTold_42 : decode cX8_termTold 42 = .ok (.iconst 0, 1) := by decide +kernel
theorem dX8_termTold_43 : decode cX8_termTold 43 = .ok (.ireturn, 1) := by decide +kernel
theorem dX8_tellDone_0 : decode cX8_tellDone 0 = .ok (.iload_n 1, 1) := by decide +kernel
theorem dX8_tellDone_1 : decode cX8_tellDone 1 = .ok (.tableswitch 126 0 8 #[51, 58, 65, 71, 76, 82, 88, 103, 117], 51) := by decide +kernel
theorem dX8_tellDone_52 : decode cX8_tellDone 52 = .ok (.aload_n 0, 1) := by decide +kernel
theorem dX8_tellDone_53 : decode cX8_tellDone 53 = .ok (.iload_n 2, 1) := by decide +kernel
theorem dX8_tellDone_54 : decode cX8_tellDone 54 = .ok (.iload_n 3, 1) := by decide +kernel
theorem dX8_tellDone_55 : decode cX8_tellDone 55 = .ok (.invokevirtual 229, 3) := by decide +kernel
theorem dX8_tellDone_58 : decode cX8_tellDone 58 = .ok (.ireturn, 1) := by decide +kernel
theorem dX8_tellDone_59 : decode cX8_tellDone 59 = .ok (.aload_n 0, 1) := by decide +kernel
theorem dX8_tellDone_60 : decode cX8_tellDone 60 = .ok (.iload_n 2, 1) := by decide +kernel
theorem dX8_tellDone_61 : decode cX8_tellDone 61 = .ok (.iload_n 3, 1) := by decide +kernel
theorem dX8_tellDone_62 : decode cX8_tellDone 62 = .ok (.invokevirtual 232, 3) := by decide +kernel
theorem dX8_tellDone_65 : decode cX8_tellDone 65 = .ok (.ireturn, 1) := by decide +kernel
theorem dX8_tellDone_66 : decode cX8_tellDone 66 = .ok (.aload_n 0, 1) := by decide +kernel
theorem dX8_tellDone_67 : decode cX8_tellDone 67 = .ok (.iload_n 2, 1) := by decide +kernel
theorem dX8_tellDone_68 : decode cX8_tellDone 68 = .ok (.invokevirtual 235, 3) := by decide +kernel
theorem dX8_tellDone_71 : decode cX8_tellDone 71 = .ok (.ireturn, 1) := by decide +kernel
theorem dX8_tellDone_72 : decode cX8_tellDone 72 = .ok (.aload_n 0, 1) := by decide +kernel
theorem dX8_tellDone_73 : decode cX8_tellDone 73 = .ok (.invokevirtual 238, 3) := by decide +kernel
theorem dX8_tellDone_76 : decode cX8_tellDone 76 = .ok (.ireturn, 1) := by decide +kernel
theorem dX8_tellDone_77 : decode cX8_tellDone 77 = .ok (.aload_n 0, 1) := by decide +kernel
theorem dX8_tellDone_78 : decode cX8_tellDone 78 = .ok (.iconst (-1), 1) := by decide +kernel
theorem dX8_tellDone_79 : decode cX8_tellDone 79 = .ok (.invokevirtual 242, 3) := by decide +kernel
theorem dX8_tellDone_82 : decode cX8_tellDone 82 = .ok (.ireturn, 1) := by decide +kernel
theorem dX8_tellDone_83 : decode cX8_tellDone 83 = .ok (.aload_n 0, 1) := by decide +kernel
theorem dX8_tellDone_84 : decode cX8_tellDone 84 = .ok (.iload_n 2, 1) := by decide +kernel
theorem dX8_tellDone_85 : decode cX8_tellDone 85 = .ok (.invokevirtual 242, 3) := by decide +kernel
theorem dX8_tellDone_88 : decode cX8_tellDone 88 = .ok (.ireturn, 1) := by decide +kernel
theorem dX8_tellDone_89 : decode cX8_tellDone 89 = .ok (.aload_n 0, 1) := by decide +kernel
theorem dX8_tellDone_90 : decode cX8_tellDone 90 = .ok (.iload_n 2, 1) := by decide +kernel
theorem dX8_tellDone_91 : decode cX8_tellDone 91 = .ok (.iload_n 3, 1) := by decide +kernel
theorem dX8_tellDone_92 : decode cX8_tellDone 92 = .ok (.invokevirtual 245, 3) := by decide +kernel
theorem dX8_tellDone_95 : decode cX8_tellDone 95 = .ok (.ifCond .eq 7, 3) := by decide +kernel
theorem dX8_tellDone_98 : decode cX8_tellDone 98 = .ok (.iconst 1, 1) := by decide +kernel
theorem dX8_tellDone_99 : decode cX8_tellDone 99 = .ok (.goto 4, 3) := by decide +kernel
theorem dX8_tellDone_102 : decode cX8_tellDone 102 = .ok (.iconst 0, 1) := by decide +kernel
theorem dX8_tellDone_103 : decode cX8_tellDone 103 = .ok (.ireturn, 1) := by decide +kernel
theorem dX8_tellDone_104 : decode cX8_tellDone 104 = .ok (.aload_n 0, 1) := by decide +kernel
theorem dX8_tellDone_105 : decode cX8_tellDone 105 = .ok (.iload_n 2, 1) := by decide +kernel
theorem dX8_tellDone_106 : decode cX8_tellDone 106 = .ok (.invokevirtual 249, 3) := by decide +kernel
theorem dX8_tellDone_109 : decode cX8_tellDone 109 = .ok (.ifCond .eq 7, 3) := by decide +kernel
theorem dX8_tellDone_112 : decode cX8_tellDone 112 = .ok (.iconst 1, 1) := by decide +kernel
theorem dX8_tellDone_113 : decode cX8_tellDone 113 = .ok (.goto 4, 3) := by decide +kernel
theorem dX8_tellDone_116 : decode cX8_tellDone 116 = .ok (.iconst 0, 1) := by decide +kernel
theorem dX8_tellDone_117 : decode cX8_tellDone 117 = .ok (.ireturn, 1) := by decide +kernel
theorem dX8_tellDone_118 : decode cX8_tellDone 118 = .ok (.aload_n 0, 1) := by decide +kernel
theorem dX8_tellDone_119 : decode cX8_tellDone 119 = .ok (.iload_n 2, 1) := by decide +kernel
theorem dX8_tellDone_120 : decode cX8_tellDone 120 = .ok (.iload_n 3, 1) := by decide +kernel
theorem dX8_tellDone_121 : decode cX8_tellDone 121 = .ok (.iload 4, 2) := by decide +kernel
theorem dX8_tellDone_123 : decode cX8_tellDone 123 = .ok (.invokevirtual 252, 3) := by decide +kernel
theorem dX8_tellDone_126 : decode cX8_tellDone 126 = .ok (.ireturn, 1) := by decide +kernel
theorem dX8_tellDone_127 : decode cX8_tellDone 127 = .ok (.aload_n 0, 1) := by decide +kernel
theorem dX8_tellDone_128 : decode cX8_tellDone 128 = .ok (.iload_n 2, 1) := by decide +kernel
theorem dX8_tellDone_129 : decode cX8_tellDone 129 = .ok (.iload_n 3, 1) := by decide +kernel
theorem dX8_tellDone_130 : decode cX8_tellDone 130 = .ok (.invokevirtual 255, 3) := by decide +kernel
theorem dX8_tellDone_133 : decode cX8_tellDone 133 = .ok (.ifCond .eq 7, 3) := by decide +kernel
theorem dX8_tellDone_136 : decode cX8_tellDone 136 = .ok (.iconst 1, 1) := by decide +kernel
theorem dX8_tellDone_137 : decode cX8_tellDone 137 = .ok (.goto 4, 3) := by decide +kernel
theorem dX8_tellDone_140 : decode cX8_tellDone 140 = .ok (.iconst 0, 1) := by decide +kernel
theorem dX8_tellDone_141 : decode cX8_tellDone 141 = .ok (.ireturn, 1) := by decide +kernel
theorem dX8_in_0 : decode cX8_in 0 = .ok (.iload_n 0, 1) := by decide +kernel
theorem dX8_in_1 : decode cX8_in 1 = .ok (.iload_n 1, 1) := by decide +kernel
theorem dX8_in_2 : decode cX8_in 2 = .ok (.if_icmp .lt 12, 3) := by decide +kernel
theorem dX8_in_5 : decode cX8_in 5 = .ok (.iload_n 0, 1) := by decide +kernel
theorem dX8_in_6 : decode cX8_in 6 = .ok (.iload_n 2, 1) := by decide +kernel
theorem dX8_in_7 : decode cX8_in 7 = .ok (.if_icmp .gt 7, 3) := by decide +kernel
theorem dX8_in_10 : decode cX8_in 10 = .ok (.iconst 1, 1) := by decide +kernel
theorem dX8_in_11 : decode cX8_in 11 = .ok (.goto 4, 3) := by decide +kernel
theorem dX8_in_14 : decode cX8_in 14 = .ok (.iconst 0, 1) := by decide +kernel
theorem dX8_in_15 : decode cX8_in 15 = .ok (.ireturn, 1) := by decide +kernel
theorem dX8_begins_0 : decode cX8_begins 0 = .ok (.iconst 0, 1) := by decide +kernel
theorem dX8_begins_1 : decode cX8_begins 1 = .ok (.istore_n 3, 1) := by decide +kernel
theorem dX8_begins_2 : decode cX8_begins 2 = .ok (.iload_n 3, 1) := by decide +kernel
theorem dX8_begins_3 : decode cX8_begins 3 = .ok (.sipush 1380, 3) := by decide +kernel
theorem dX8_begins_6 : decode cX8_begins 6 = .ok (.if_icmp .ge 16, 3) := by decide +kernel
theorem dX8_begins_9 : decode cX8_begins 9 = .ok (.aload_n 0, 1) := by decide +kernel
theorem dX8_begins_10 : decode cX8_begins 10 = .ok (.getfield 73, 3) := by decide +kernel
theorem dX8_begins_13 : decode cX8_begins 13 = .ok (.iload_n 3, 1) := by decide +kernel
theorem dX8_begins_14 : decode cX8_begins 14 = .ok (.iconst 0, 1) := by decide +kernel
theorem dX8_begins_15 : decode cX8_begins 15 = .ok (.iastore, 1) := by decide +kernel
theorem dX8_begins_16 : decode cX8_begins 16 = .ok (.iinc 3 1, 3) := by decide +kernel
theorem dX8_begins_19 : decode cX8_begins 19 = .ok (.goto (-17), 3) := by decide +kernel
theorem dX8_begins_22 : decode cX8_begins 22 = .ok (.aload_n 0, 1) := by decide +kernel
theorem dX8_begins_23 : decode cX8_begins 23 = .ok (.getfield 73, 3) := by decide +kernel
theorem dX8_begins_26 : decode cX8_begins 26 = .ok (.iconst 0, 1) := by decide +kernel
theorem dX8_begins_27 : decode cX8_begins 27 = .ok (.iload_n 1, 1) := by decide +kernel
theorem dX8_begins_28 : decode cX8_begins 28 = .ok (.iastore, 1) := by decide +kernel
theorem dX8_begins_29 : decode cX8_begins 29 = .ok (.aload_n 0, 1) := by decide +kernel
theorem dX8_begins_30 : decode cX8_begins 30 = .ok (.getfield 73, 3) := by decide +kernel
theorem dX8_begins_33 : decode cX8_begins 33 = .ok (.iconst 1, 1) := by decide +kernel
theorem dX8_begins_34 : decode cX8_begins 34 = .ok (.iload_n 2, 1) := by decide +kernel
theorem dX8_begins_35 : decode cX8_begins 35 = .ok (.iastore, 1) := by decide +kernel
theorem dX8_begins_36 : decode cX8_begins 36 = .ok (.aload_n 0, 1) := by decide +kernel
theorem dX8_begins_37 : decode cX8_begins 37 = .ok (.bipush (-2), 2) := by decide +kernel
theorem dX8_begins_39 : decode cX8_begins 39 = .ok (.bipush (-2), 2) := by decide +kernel
theorem dX8_begins_41 : decode cX8_begins 41 = .ok (.iconst 0, 1) := by decide +kernel
theorem dX8_begins_42 : decode cX8_begins 42 = .ok (.invokevirtual 258, 3) := by decide +kernel
theorem dX8_begins_45 : decode cX8_begins 45 = .ok (.return_, 1) := by decide +kernel
theorem dX8_newLine_0 : decode cX8_newLine 0 = .ok (.bipush 20, 2) := by decide +kernel
theorem dX8_newLine_2 : decode cX8_newLine 2 = .ok (.iconst 4, 1) := by decide +kernel
theorem dX8_newLine_3 : decode cX8_newLine 3 = .ok (.aload_n 0, 1) := by decide +kernel
theorem dX8_newLine_4 : decode cX8_newLine 4 = .ok (.getfield 73, 3) := by decide +kernel
theorem dX8_newLine_7 : decode cX8_newLine 7 = .ok (.iconst 2, 1) := by decide +kernel
theorem dX8_newLine_8 : decode cX8_newLine 8 = .ok (.iaload, 1) := by decide +kernel
theorem dX8_newLine_9 : decode cX8_newLine 9 = .ok (.imul, 1) := by decide +kernel
theorem dX8_newLine_10 : decode cX8_newLine 10 = .ok (.iadd, 1) := by decide +kernel
theorem dX8_newLine_11 : decode cX8_newLine 11 = .ok (.istore 4, 2) := by decide +kernel
theorem dX8_newLine_13 : decode cX8_newLine 13 = .ok (.aload_n 0, 1) := by decide +kernel
theorem dX8_newLine_14 : decode cX8_newLine 14 = .ok (.getfield 73, 3) := by decide +kernel
theorem dX8_newLine_17 : decode cX8_newLine 17 = .ok (.iload 4, 2) := by decide +kernel
theorem dX8_newLine_19 : decode cX8_newLine 19 = .ok (.iload_n 3, 1) := by decide +kernel
theorem dX8_newLine_20 : decode cX8_newLine 20 = .ok (.iastore, 1) := by decide +kernel
theorem dX8_newLine_21 : decode cX8_newLine 21 = .ok (.aload_n 0, 1) := by decide +kernel
theorem dX8_newLine_22 : decode cX8_newLine 22 = .ok (.getfield 73, 3) := by decide +kernel
theorem dX8_newLine_25 : decode cX8_newLine 25 = .ok (.iload 4, 2) := by decide +kernel
theorem dX8_newLine_27 : decode cX8_newLine 27 = .ok (.iconst 1, 1) := by decide +kernel
theorem dX8_newLine_28 : decode cX8_newLine 28 = .ok (.iadd, 1) := by decide +kernel
theorem dX8_newLine_29 : decode cX8_newLine 29 = .ok (.iload_n 1, 1) := by decide +kernel
theorem dX8_newLine_30 : decode cX8_newLine 30 = .ok (.iastore, 1) := by decide +kernel
theorem dX8_newLine_31 : decode cX8_newLine 31 = .ok (.aload_n 0, 1) := by decide +kernel
theorem dX8_newLine_32 : decode cX8_newLine 32 = .ok (.getfield 73, 3) := by decide +kernel
theorem dX8_newLine_35 : decode cX8_newLine 35 = .ok (.iload 4, 2) := by decide +kernel
theorem dX8_newLine_37 : decode cX8_newLine 37 = .ok (.iconst 2, 1) := by decide +kernel
theorem dX8_newLine_38 : decode cX8_newLine 38 = .ok (.iadd, 1) := by decide +kernel
theorem dX8_newLine_39 : decode cX8_newLine 39 = .ok (.iload_n 2, 1) := by decide +kernel
theorem dX8_newLine_40 : decode cX8_newLine 40 = .ok (.iastore, 1) := by decide +kernel
theorem dX8_newLine_41 : decode cX8_newLine 41 = .ok (.aload_n 0, 1) := by decide +kernel
theorem dX8_newLine_42 : decode cX8_newLine 42 = .ok (.getfield 73, 3) := by decide +kernel
theorem dX8_newLine_45 : decode cX8_newLine 45 = .ok (.iconst 3, 1) := by decide +kernel
theorem dX8_newLine_46 : decode cX8_newLine 46 = .ok (.aload_n 0, 1) := by decide +kernel
theorem dX8_newLine_47 : decode cX8_newLine 47 = .ok (.getfield 73, 3) := by decide +kernel
theorem dX8_newLine_50 : decode cX8_newLine 50 = .ok (.iconst 2, 1) := by decide +kernel
theorem dX8_newLine_51 : decode cX8_newLine 51 = .ok (.iaload, 1) := by decide +kernel
theorem dX8_newLine_52 : decode cX8_newLine 52 = .ok (.iastore, 1) := by decide +kernel
theorem dX8_newLine_53 : decode cX8_newLine 53 = .ok (.aload_n 0, 1) := by decide +kernel
theorem dX8_newLine_54 : decode cX8_newLine 54 = .ok (.getfield 73, 3) := by decide +kernel
theorem dX8_newLine_57 : decode cX8_newLine 57 = .ok (.iconst 2, 1) := by decide +kernel
theorem dX8_newLine_58 : decode cX8_newLine 58 = .ok (.dup2, 1) := by decide +kernel
theorem dX8_newLine_59 : decode cX8_newLine 59 = .ok (.iaload, 1) := by decide +kernel
theorem dX8_newLine_60 : decode cX8_newLine 60 = .ok (.iconst 1, 1) := by decide +kernel
theorem dX8_newLine_61 : decode cX8_newLine 61 = .ok (.iadd, 1) := by decide +kernel
theorem dX8_newLine_62 : decode cX8_newLine 62 = .ok (.iastore, 1) := by decide +kernel
theorem dX8_newLine_63 : decode cX8_newLine 63 = .ok (.return_, 1) := by decide +kernel
theorem dX8_isLine_0 : decode cX8_isLine 0 = .ok (.iload_n 1, 1) := by decide +kernel
theorem dX8_isLine_1 : decode cX8_isLine 1 = .ok (.iconst 0, 1) := by decide +kernel
theorem dX8_isLine_2 : decode cX8_isLine 2 = .ok (.aload_n 0, 1) := by decide +kernel
theorem dX8_isLine_3 : decode cX8_isLine 3 = .ok (.getfield 73, 3) := by decide +kernel
theorem dX8_isLine_6 : decode cX8_isLine 6 = .ok (.iconst 2, 1) := by decide +kernel
theorem dX8_isLine_7 : decode cX8_isLine 7 = .ok (.iaload, 1) := by decide +kernel
theorem dX8_isLine_8 : decode cX8_isLine 8 = .ok (.iconst 1, 1) := by decide +kernel
theorem dX8_isLine_9 : decode cX8_isLine 9 = .ok (.isub, 1) := by decide +kernel
theorem dX8_isLine_10 : decode cX8_isLine 10 = .ok (.invokestatic 194, 3) := by decide +kernel
theorem dX8_isLine_13 : decode cX8_isLine 13 = .ok (.ireturn, 1) := by decide +kernel
theorem dX8_isPage_0 : decode cX8_isPage 0 = .ok (.iload_n 1, 1) := by decide +kernel
theorem dX8_isPage_1 : decode cX8_isPage 1 = .ok (.iconst 0, 1) := by decide +kernel
theorem dX8_isPage_2 : decode cX8_isPage 2 = .ok (.aload_n 0, 1) := by decide +kernel
theorem dX8_isPage_3 : decode cX8_isPage 3 = .ok (.getfield 73, 3) := by decide +kernel
theorem dX8_isPage_6 : decode cX8_isPage 6 = .ok (.iconst 0, 1) := by decide +kernel
theorem dX8_isPage_7 : decode cX8_isPage 7 = .ok (.iaload, 1) := by decide +kernel
theorem dX8_isPage_8 : decode cX8_isPage 8 = .ok (.iconst 1, 1) := by decide +kernel
theorem dX8_isPage_9 : decode cX8_isPage 9 = .ok (.isub, 1) := by decide +kernel
theorem dX8_isPage_10 : decode cX8_isPage 10 = .ok (.invokestatic 194, 3) := by decide +kernel
theorem dX8_isPage_13 : decode cX8_isPage 13 = .ok (.ireturn, 1) := by decide +kernel
theorem dX8_isCopy_0 : decode cX8_isCopy 0 = .ok (.iload_n 1, 1) := by decide +kernel
theorem dX8_isCopy_1 : decode cX8_isCopy 1 = .ok (.iconst 0, 1) := by decide +kernel
theorem dX8_isCopy_2 : decode cX8_isCopy 2 = .ok (.aload_n 0, 1) := by decide +kernel
theorem dX8_isCopy_3 : decode cX8_isCopy 3 = .ok (.getfield 73, 3) := by decide +kernel
theorem dX8_isCopy_6 : decode cX8_isCopy 6 = .ok (.iconst 5, 1) := by decide +kernel
theorem dX8_isCopy_7 : decode cX8_isCopy 7 = .ok (.iaload, 1) := by decide +kernel
theorem dX8_isCopy_8 : decode cX8_isCopy 8 = .ok (.iconst 1, 1) := by decide +kernel
theorem dX8_isCopy_9 : decode cX8_isCopy 9 = .ok (.isub, 1) := by decide +kernel
theorem dX8_isCopy_10 : decode cX8_isCopy 10 = .ok (.invokestatic 194, 3) := by decide +kernel
theorem dX8_isCopy_13 : decode cX8_isCopy 13 = .ok (.ireturn, 1) := by decide +kernel
theorem dX8_placeOf_0 : decode cX8_placeOf 0 = .ok (.aload_n 0, 1) := by decide +kernel
theorem dX8_placeOf_1 : decode cX8_placeOf 1 = .ok (.getfield 73, 3) := by decide +kernel
theorem dX8_placeOf_4 : decode cX8_placeOf 4 = .ok (.bipush 20, 2) := by decide +kernel
theorem dX8_placeOf_6 : decode cX8_placeOf 6 = .ok (.iconst 4, 1) := by decide +kernel
theorem dX8_placeOf_7 : decode cX8_placeOf 7 = .ok (.iload_n 1, 1) := by decide +kernel
theorem dX8_placeOf_8 : decode cX8_placeOf 8 = .ok (.imul, 1) := by decide +kernel
theorem dX8_placeOf_9 : decode cX8_placeOf 9 = .ok (.iadd, 1) := by decide +kernel
theorem dX8_placeOf_10 : decode cX8_placeOf 10 = .ok (.iaload, 1) := by decide +kernel
theorem dX8_placeOf_11 : decode cX8_placeOf 11 = .ok (.ireturn, 1) := by decide +kernel
theorem dX8_parentOf_0 : decode cX8_parentOf 0 = .ok (.aload_n 0, 1) := by decide +kernel
theorem dX8_parentOf_1 : decode cX8_parentOf 1 = .ok (.getfield 73, 3) := by decide +kernel
theorem dX8_parentOf_4 : decode cX8_parentOf 4 = .ok (.bipush 20, 2) := by decide +kernel
theorem dX8_parentOf_6 : decode cX8_parentOf 6 = .ok (.iconst 4, 1) := by decide +kernel
theorem dX8_parentOf_7 : decode cX8_parentOf 7 = .ok (.iload_n 1, 1) := by decide +kernel
theorem dX8_parentOf_8 : decode cX8_parentOf 8 = .ok (.imul, 1) := by decide +kernel
theorem dX8_parentOf_9 : decode cX8_parentOf 9 = .ok (.iadd, 1) := by decide +kernel
theorem dX8_parentOf_10 : decode cX8_parentOf 10 = .ok (.iconst 1, 1) := by decide +kernel
theorem dX8_parentOf_11 : decode cX8_parentOf 11 = .ok (.iadd, 1) := by decide +kernel
theorem dX8_parentOf_12 : decode cX8_parentOf 12 = .ok (.iaload, 1) := by decide +kernel
theorem dX8_parentOf_13 : decode cX8_parentOf 13 = .ok (.ireturn, 1) := by decide +kernel
theorem dX8_forkOf_0 : decode cX8_forkOf 0 = .ok (.iload_n 1, 1) := by decide +kernel
theorem dX8_forkOf_1 : decode cX8_forkOf 1 = .ok (.ifCond .ne 7, 3) := by decide +kernel
theorem dX8_forkOf_4 : decode cX8_forkOf 4 = .ok (.iconst 0, 1) := by decide +kernel
theorem dX8_forkOf_5 : decode cX8_forkOf 5 = .ok (.goto 16, 3) := by decide +kernel
theorem dX8_forkOf_8 : decode cX8_forkOf 8 = .ok (.aload_n 0, 1) := by decide +kernel
theorem dX8_forkOf_9 : decode cX8_forkOf 9 = .ok (.getfield 73, 3) := by decide +kernel
theorem dX8_forkOf_12 : decode cX8_forkOf 12 = .ok (.bipush 20, 2) := by decide +kernel
theorem dX8_forkOf_14 : decode cX8_forkOf 14 = .ok (.iconst 4, 1) := by decide +kernel
theorem dX8_forkOf_15 : decode cX8_forkOf 15 = .ok (.iload_n 1, 1) := by decide +kernel
theorem dX8_forkOf_16 : decode cX8_forkOf 16 = .ok (.imul, 1) := by decide +kernel
theorem dX8_forkOf_17 : decode cX8_forkOf 17 = .ok (.iadd, 1) := by decide +kernel
theorem dX8_forkOf_18 : decode cX8_forkOf 18 = .ok (.iconst 2, 1) := by decide +kernel
theorem dX8_forkOf_19 : decode cX8_forkOf 19 = .ok (.iadd, 1) := by decide +kernel
theorem dX8_forkOf_20 : decode cX8_forkOf 20 = .ok (.iaload, 1) := by decide +kernel
theorem dX8_forkOf_21 : decode cX8_forkOf 21 = .ok (.ireturn, 1) := by decide +kernel
theorem dX8_isAt_0 : decode cX8_isAt 0 = .ok (.aload_n 0, 1) := by decide +kernel
theorem dX8_isAt_1 : decode cX8_isAt 1 = .ok (.iload_n 1, 1) := by decide +kernel
theorem dX8_isAt_2 : decode cX8_isAt 2 = .ok (.invokevirtual 262, 3) := by decide +kernel
theorem dX8_isAt_5 : decode cX8_isAt 5 = .ok (.ifCond .eq 20, 3) := by decide +kernel
theorem dX8_isAt_8 : decode cX8_isAt 8 = .ok (.iload_n 2, 1) := by decide +kernel
theorem dX8_isAt_9 : decode cX8_isAt 9 = .ok (.iconst 0, 1) := by decide +kernel
theorem dX8_isAt_10 : decode cX8_isAt 10 = .ok (.aload_n 0, 1) := by decide +kernel
theorem dX8_isAt_11 : decode cX8_isAt 11 = .ok (.iload_n 1, 1) := by decide +kernel
theorem dX8_isAt_12 : decode cX8_isAt 12 = .ok (.invokevirtual 217, 3) := by decide +kernel
theorem dX8_isAt_15 : decode cX8_isAt 15 = .ok (.invokestatic 194, 3) := by decide +kernel
theorem dX8_isAt_18 : decode cX8_isAt 18 = .ok (.ifCond .eq 7, 3) := by decide +kernel
theorem dX8_isAt_21 : decode cX8_isAt 21 = .ok (.iconst 1, 1) := by decide +kernel
theorem dX8_isAt_22 : decode cX8_isAt 22 = .ok (.goto 4, 3) := by decide +kernel
theorem dX8_isAt_25 : decode cX8_isAt 25 = .ok (.iconst 0, 1) := by decide +kernel
theorem dX8_isAt_26 : decode cX8_isAt 26 = .ok (.ireturn, 1) := by decide +kernel
theorem dX8_ownerOf_0 : decode cX8_ownerOf 0 = .ok (.iload_n 1, 1) := by decide +kernel
theorem dX8_ownerOf_1 : decode cX8_ownerOf 1 = .ok (.istore_n 3, 1) := by decide +kernel
theorem dX8_ownerOf_2 : decode cX8_ownerOf 2 = .ok (.iload_n 3, 1) := by decide +kernel
theorem dX8_ownerOf_3 : decode cX8_ownerOf 3 = .ok (.ifCond .le 21, 3) := by decide +kernel
theorem dX8_ownerOf_6 : decode cX8_ownerOf 6 = .ok (.iload_n 2, 1) := by decide +kernel
theorem dX8_ownerOf_7 : decode cX8_ownerOf 7 = .ok (.aload_n 0, 1) := by decide +kernel
theorem dX8_ownerOf_8 : decode cX8_ownerOf 8 = .ok (.iload_n 3, 1) := by decide +kernel
theorem dX8_ownerOf_9 : decode cX8_ownerOf 9 = .ok (.invokevirtual 265, 3) := by decide +kernel
theorem dX8_ownerOf_12 : decode cX8_ownerOf 12 = .ok (.if_icmp .gt 12, 3) := by decide +kernel
theorem dX8_ownerOf_15 : decode cX8_ownerOf 15 = .ok (.aload_n 0, 1) := by decide +kernel
theorem dX8_ownerOf_16 : decode cX8_ownerOf 16 = .ok (.iload_n 3, 1) := by decide +kernel
theorem dX8_ownerOf_17 : decode cX8_ownerOf 17 = .ok (.invokevirtual 268, 3) := by decide +kernel
theorem dX8_ownerOf_20 : decode cX8_ownerOf 20 = .ok (.istore_n 3, 1) := by decide +kernel
theorem dX8_ownerOf_21 : decode cX8_ownerOf 21 = .ok (.goto (-19), 3) := by decide +kernel
theorem dX8_ownerOf_24 : decode cX8_ownerOf 24 = .ok (.iload_n 3, 1) := by decide +kernel
theorem dX8_ownerOf_25 : decode cX8_ownerOf 25 = .ok (.ireturn, 1) := by decide +kernel
theorem dX8_recordAt_0 : decode cX8_recordAt 0 = .ok (.sipush 1380, 3) := by decide +kernel
theorem dX8_recordAt_3 : decode cX8_recordAt 3 = .ok (.iconst 3, 1) := by decide +kernel
theorem dX8_recordAt_4 : decode cX8_recordAt 4 = .ok (.sipush 241, 3) := by decide +kernel
theorem dX8_recordAt_7 : decode cX8_recordAt 7 = .ok (.aload_n 0, 1) := by decide +kernel
theorem dX8_recordAt_8 : decode cX8_recordAt 8 = .ok (.iload_n 1, 1) := by decide +kernel
theorem dX8_recordAt_9 : decode cX8_recordAt 9 = .ok (.iload_n 2, 1) := by decide +kernel
theorem dX8_recordAt_10 : decode cX8_recordAt 10 = .ok (.invokevirtual 271, 3) := by decide +kernel
theorem dX8_recordAt_13 : decode cX8_recordAt 13 = .ok (.imul, 1) := by decide +kernel
theorem dX8_recordAt_14 : decode cX8_recordAt 14 = .ok (.iload_n 2, 1) := by decide +kernel
theorem dX8_recordAt_15 : decode cX8_recordAt 15 = .ok (.iadd, 1) := by decide +kernel
theorem dX8_recordAt_16 : decode cX8_recordAt 16 = .ok (.imul, 1) := by decide +kernel
theorem dX8_recordAt_17 : decode cX8_recordAt 17 = .ok (.iadd, 1) := by decide +kernel
theorem dX8_recordAt_18 : decode cX8_recordAt 18 = .ok (.ireturn, 1) := by decide +kernel
theorem dX8_pieceOf_0 : decode cX8_pieceOf 0 = .ok (.iload_n 1, 1) := by decide +kernel
theorem dX8_pieceOf_1 : decode cX8_pieceOf 1 = .ok (.iconst 1, 1) := by decide +kernel
theorem dX8_pieceOf_2 : decode cX8_pieceOf 2 = .ok (.isub, 1) := by decide +kernel
theorem dX8_pieceOf_3 : decode cX8_pieceOf 3 = .ok (.aload_n 0, 1) := by decide +kernel
theorem dX8_pieceOf_4 : decode cX8_pieceOf 4 = .ok (.getfield 73, 3) := by decide +kernel
theorem dX8_pieceOf_7 : decode cX8_pieceOf 7 = .ok (.iconst 1, 1) := by decide +kernel
theorem dX8_pieceOf_8 : decode cX8_pieceOf 8 = .ok (.iaload, 1) := by decide +kernel
theorem dX8_pieceOf_9 : decode cX8_pieceOf 9 = .ok (.idiv, 1) := by decide +kernel
theorem dX8_pieceOf_10 : decode cX8_pieceOf 10 = .ok (.ireturn, 1) := by decide +kernel
theorem dX8_firstPiece_0 : decode cX8_firstPiece 0 = .ok (.aload_n 0, 1) := by decide +kernel
theorem dX8_firstPiece_1 : decode cX8_firstPiece 1 = .ok (.iload_n 1, 1) := by decide +kernel
theorem dX8_firstPiece_2 : decode cX8_firstPiece 2 = .ok (.invokevirtual 265, 3) := by decide +kernel
theorem dX8_firstPiece_5 : decode cX8_firstPiece 5 = .ok (.aload_n 0, 1) := by decide +kernel
theorem dX8_firstPiece_6 : decode cX8_firstPiece 6 = .ok (.getfield 73, 3) := by decide +kernel
theorem dX8_firstPiece_9 : decode cX8_firstPiece 9 = .ok (.iconst 1, 1) := by decide +kernel
theorem dX8_firstPiece_10 : decode cX8_firstPiece 10 = .ok (.iaload, 1) := by decide +kernel
theorem dX8_firstPiece_11 : decode cX8_firstPiece 11 = .ok (.idiv, 1) := by decide +kernel
theorem dX8_firstPiece_12 : decode cX8_firstPiece 12 = .ok (.ireturn, 1) := by decide +kernel
theorem dX8_hasRoom_0 : decode cX8_hasRoom 0 = .ok (.aload_n 0, 1) := by decide +kernel
theorem dX8_hasRoom_1 : decode cX8_hasRoom 1 = .ok (.aload_n 0, 1) := by decide +kernel
theorem dX8_hasRoom_2 : decode cX8_hasRoom 2 = .ok (.getfield 73, 3) := by decide +kernel
theorem dX8_hasRoom_5 : decode cX8_hasRoom 5 = .ok (.iconst 3, 1) := by decide +kernel
theorem dX8_hasRoom_6 : decode cX8_hasRoom 6 = .ok (.iaload, 1) := by decide +kernel
theorem dX8_hasRoom_7 : decode cX8_hasRoom 7 = .ok (.invokevirtual 217, 3) := by decide +kernel
theorem dX8_hasRoom_10 : decode cX8_hasRoom 10 = .ok (.iload_n 1, 1) := by decide +kernel
theorem dX8_hasRoom_11 : decode cX8_hasRoom 11 = .ok (.iadd, 1) := by decide +kernel
theorem dX8_hasRoom_12 : decode cX8_hasRoom 12 = .ok (.sipush 240, 3) := by decide +kernel
theorem dX8_hasRoom_15 : decode cX8_hasRoom 15 = .ok (.if_icmp .gt 21, 3) := by decide +kernel
theorem dX8_hasRoom_18 : decode cX8_hasRoom 18 = .ok (.aload_n 0, 1) := by decide +kernel
theorem dX8_hasRoom_19 : decode cX8_hasRoom 19 = .ok (.getfield 73, 3) := by decide +kernel
theorem dX8_hasRoom_22 : decode cX8_hasRoom 22 = .ok (.iconst 4, 1) := by decide +kernel
theorem dX8_hasRoom_23 : decode cX8_hasRoom 23 = .ok (.iaload, 1) := by decide +kernel
theorem dX8_hasRoom_24 : decode cX8_hasRoom 24 = .ok (.iload_n 1, 1) := by decide +kernel
theorem dX8_hasRoom_25 : decode cX8_hasRoom 25 = .ok (.iadd, 1) := by decide +kernel
theorem dX8_hasRoom_26 : decode cX8_hasRoom 26 = .ok (.sipush 600, 3) := by decide +kernel
theorem dX8_hasRoom_29 : decode cX8_hasRoom 29 = .ok (.if_icmp .gt 7, 3) := by decide +kernel
theorem dX8_hasRoom_32 : decode cX8_hasRoom 32 = .ok (.iconst 1, 1) := by decide +kernel
theorem dX8_hasRoom_33 : decode cX8_hasRoom 33 = .ok (.goto 4, 3) := by decide +kernel
theorem dX8_hasRoom_36 : decode cX8_hasRoom 36 = .ok (.iconst 0, 1) := by decide +kernel
theorem dX8_hasRoom_37 : decode cX8_hasRoom 37 = .ok (.ireturn, 1) := by decide +kernel
theorem dX8_comes_0 : decode cX8_comes 0 = .ok (.aload_n 0, 1) := by decide +kernel
theorem dX8_comes_1 : decode cX8_comes 1 = .ok (.iconst 1, 1) := by decide +kernel
theorem dX8_comes_2 : decode cX8_comes 2 = .ok (.invokevirtual 274, 3) := by decide +kernel
theorem dX8_comes_5 : decode cX8_comes 5 = .ok (.ifCond .ne 5, 3) := by decide +kernel
theorem dX8_comes_8 : decode cX8_comes 8 = .ok (.iconst (-1), 1) := by decide +kernel
theorem dX8_comes_9 : decode cX8_comes 9 = .ok (.ireturn, 1) := by decide +kernel
theorem dX8_comes_10 : decode cX8_comes 10 = .ok (.aload_n 0, 1) := by decide +kernel
theorem dX8_comes_11 : decode cX8_comes 11 = .ok (.getfield 73, 3) := by decide +kernel
theorem dX8_comes_14 : decode cX8_comes 14 = .ok (.iconst 3, 1) := by decide +kernel
theorem dX8_comes_15 : decode cX8_comes 15 = .ok (.iaload, 1) := by decide +kernel
theorem dX8_comes_16 : decode cX8_comes 16 = .ok (.istore 4, 2) := by decide +kernel
theorem dX8_comes_18 : decode cX8_comes 18 = .ok (.aload_n 0, 1) := by decide +kernel
theorem dX8_comes_19 : decode cX8_comes 19 = .ok (.iload 4, 2) := by decide +kernel
theorem dX8_comes_21 : decode cX8_comes 21 = .ok (.invokevirtual 217, 3) := by decide +kernel
theorem dX8_comes_24 : decode cX8_comes 24 = .ok (.iconst 1, 1) := by decide +kernel
theorem dX8_comes_25 : decode cX8_comes 25 = .ok (.iadd, 1) := by decide +kernel
theorem dX8_comes_26 : decode cX8_comes 26 = .ok (.istore 5, 2) := by decide +kernel
theorem dX8_comes_28 : decode cX8_comes 28 = .ok (.sipush 1380, 3) := by decide +kernel
theorem dX8_comes_31 : decode cX8_comes 31 = .ok (.iconst 3, 1) := by decide +kernel
theorem dX8_comes_32 : decode cX8_comes 32 = .ok (.sipush 241, 3) := by decide +kernel
theorem dX8_comes_35 : decode cX8_comes 35 = .ok (.iload 4, 2) := by decide +kernel
theorem dX8_comes_37 : decode cX8_comes 37 = .ok (.imul, 1) := by decide +kernel
theorem dX8_comes_38 : decode cX8_comes 38 = .ok (.iload 5, 2) := by decide +kernel
theorem dX8_comes_40 : decode cX8_comes 40 = .ok (.iadd, 1) := by decide +kernel
theorem dX8_comes_41 : decode cX8_comes 41 = .ok (.imul, 1) := by decide +kernel
theorem dX8_comes_42 : decode cX8_comes 42 = .ok (.iadd, 1) := by decide +kernel
theorem dX8_comes_43 : decode cX8_comes 43 = .ok (.istore 6, 2) := by decide +kernel
theorem dX8_comes_45 : decode cX8_comes 45 = .ok (.aload_n 0, 1) := by decide +kernel
theorem dX8_comes_46 : decode cX8_comes 46 = .ok (.getfield 73, 3) := by decide +kernel
theorem dX8_comes_49 : decode cX8_comes 49 = .ok (.bipush 20, 2) := by decide +kernel
theorem dX8_comes_51 : decode cX8_comes 51 = .ok (.iconst 4, 1) := by decide +kernel
theorem dX8_comes_52 : decode cX8_comes 52 = .ok (.iload 4, 2) := by decide +kernel
theorem dX8_comes_54 : decode cX8_comes 54 = .ok (.imul, 1) := by decide +kernel
theorem dX8_comes_55 : decode cX8_comes 55 = .ok (.iadd, 1) := by decide +kernel
theorem dX8_comes_56 : decode cX8_comes 56 = .ok (.iload 5, 2) := by decide +kernel
theorem dX8_comes_58 : decode cX8_comes 58 = .ok (.iastore, 1) := by decide +kernel
theorem dX8_comes_59 : decode cX8_comes 59 = .ok (.aload_n 0, 1) := by decide +kernel
theorem dX8_comes_60 : decode cX8_comes 60 = .ok (.getfield 73, 3) := by decide +kernel
theorem dX8_comes_63 : decode cX8_comes 63 = .ok (.iload 6, 2) := by decide +kernel
theorem dX8_comes_65 : decode cX8_comes 65 = .ok (.iload_n 1, 1) := by decide +kernel
theorem dX8_comes_66 : decode cX8_comes 66 = .ok (.iastore, 1) := by decide +kernel
theorem dX8_comes_67 : decode cX8_comes 67 = .ok (.aload_n 0, 1) := by decide +kernel
theorem dX8_comes_68 : decode cX8_comes 68 = .ok (.getfield 73, 3) := by decide +kernel
theorem dX8_comes_71 : decode cX8_comes 71 = .ok (.iload 6, 2) := by decide +kernel
theorem dX8_comes_73 : decode cX8_comes 73 = .ok (.iconst 1, 1) := by decide +kernel
theorem dX8_comes_74 : decode cX8_comes 74 = .ok (.iadd, 1) := by decide +kernel
theorem dX8_comes_75 : decode cX8_comes 75 = .ok (.iload_n 2, 1) := by decide +kernel
theorem dX8_comes_76 : decode cX8_comes 76 = .ok (.iastore, 1) := by decide +kernel
theorem dX8_comes_77 : decode cX8_comes 77 = .ok (.aload_n 0, 1) := by decide +kernel
theorem dX8_comes_78 : decode cX8_comes 78 = .ok (.getfield 73, 3) := by decide +kernel
theorem dX8_comes_81 : decode cX8_comes 81 = .ok (.iload 6, 2) := by decide +kernel
theorem dX8_comes_83 : decode cX8_comes 83 = .ok (.iconst 2, 1) := by decide +kernel
theorem dX8_comes_84 : decode cX8_comes 84 = .ok (.iadd, 1) := by decide +kernel
theorem dX8_comes_85 : decode cX8_comes 85 = .ok (.iload_n 3, 1) := by decide +kernel
theorem dX8_comes_86 : decode cX8_comes 86 = .ok (.iastore, 1) := by decide +kernel
theorem dX8_comes_87 : decode cX8_comes 87 = .ok (.aload_n 0, 1) := by decide +kernel
theorem dX8_comes_88 : decode cX8_comes 88 = .ok (.getfield 73, 3) := by decide +kernel
theorem dX8_comes_91 : decode cX8_comes 91 = .ok (.iconst 4, 1) := by decide +kernel
theorem dX8_comes_92 : decode cX8_comes 92 = .ok (.dup2, 1) := by decide +kernel
theorem dX8_comes_93 : decode cX8_comes 93 = .ok (.iaload, 1) := by decide +kernel
theorem dX8_comes_94 : decode cX8_comes 94 = .ok (.iconst 1, 1) := by decide +kernel
theorem dX8_comes_95 : decode cX8_comes 95 = .ok (.iadd, 1) := by decide +kernel
theorem dX8_comes_96 : decode cX8_comes 96 = .ok (.iastore, 1) := by decide +kernel
theorem dX8_comes_97 : decode cX8_comes 97 = .ok (.iload 5, 2) := by decide +kernel
theorem dX8_comes_99 : decode cX8_comes 99 = .ok (.aload_n 0, 1) := by decide +kernel
theorem dX8_comes_100 : decode cX8_comes 100 = .ok (.getfield 73, 3) := by decide +kernel
theorem dX8_comes_103 : decode cX8_comes 103 = .ok (.iconst 1, 1) := by decide +kernel
theorem dX8_comes_104 : decode cX8_comes 104 = .ok (.iaload, 1) := by decide +kernel
theorem dX8_comes_105 : decode cX8_comes 105 = .ok (.irem, 1) := by decide +kernel
theorem dX8_comes_106 : decode cX8_comes 106 = .ok (.ifCond .ne 25, 3) := by decide +kernel
theorem dX8_comes_109 : decode cX8_comes 109 = .ok (.aload_n 0, 1) := by decide +kernel
theorem dX8_comes_110 : decode cX8_comes 110 = .ok (.getfield 73, 3) := by decide +kernel
theorem dX8_comes_113 : decode cX8_comes 113 = .ok (.sipush 420, 3) := by decide +kernel
theorem dX8_comes_116 : decode cX8_comes 116 = .ok (.bipush 120, 2) := by decide +kernel
theorem dX8_comes_118 : decode cX8_comes 118 = .ok (.iload 4, 2) := by decide +kernel
theorem dX8_comes_120 : decode cX8_comes 120 = .ok (.imul, 1) := by decide +kernel
theorem dX8_comes_121 : decode cX8_comes 121 = .ok (.iadd, 1) := by decide +kernel
theorem dX8_comes_122 : decode cX8_comes 122 = .ok (.aload_n 0, 1) := by decide +kernel
theorem dX8_comes_123 : decode cX8_comes 123 = .ok (.iload 5, 2) := by decide +kernel
theorem dX8_comes_125 : decode cX8_comes 125 = .ok (.invokevirtual 277, 3) := by decide +kernel
theorem dX8_comes_128 : decode cX8_comes 128 = .ok (.iadd, 1) := by decide +kernel
theorem dX8_comes_129 : decode cX8_comes 129 = .ok (.iconst 1, 1) := by decide +kernel
theorem dX8_comes_130 : decode cX8_comes 130 = .ok (.iastore, 1) := by decide +kernel
theorem dX8_comes_131 : decode cX8_comes 131 = .ok (.iload 5, 2) := by decide +kernel
theorem dX8_comes_133 : decode cX8_comes 133 = .ok (.ireturn, 1) := by decide +kernel
theorem dX8_changedBy_0 : decode cX8_changedBy 0 = .ok (.aload_n 0, 1) := by decide +kernel
theorem dX8_changedBy_1 : decode cX8_changedBy 1 = .ok (.iload_n 1, 1) := by decide +kernel
theorem dX8_changedBy_2 : decode cX8_changedBy 2 = .ok (.iload_n 2, 1) := by decide +kernel
theorem dX8_changedBy_3 : decode cX8_changedBy 3 = .ok (.invokevirtual 280, 3) := by decide +kernel
theorem dX8_changedBy_6 : decode cX8_changedBy 6 = .ok (.istore_n 3, 1) := by decide +kernel
theorem dX8_changedBy_7 : decode cX8_changedBy 7 = .ok (.aload_n 0, 1) := by decide +kernel
theorem dX8_changedBy_8 : decode cX8_changedBy 8 = .ok (.getfield 73, 3) := by decide +kernel
theorem dX8_changedBy_11 : decode cX8_changedBy 11 = .ok (.iload_n 3, 1) := by decide +kernel
theorem dX8_changedBy_12 : decode cX8_changedBy 12 = .ok (.iaload, 1) := by decide +kernel
theorem dX8_changedBy_13 : decode cX8_changedBy 13 = .ok (.iconst 2, 1) := by decide +kernel
theorem dX8_changedBy_14 : decode cX8_changedBy 14 = .ok (.if_icmp .ge 14, 3) := by decide +kernel
theorem dX8_changedBy_17 : decode cX8_changedBy 17 = .ok (.aload_n 0, 1) := by decide +kernel
theorem dX8_changedBy_18 : decode cX8_changedBy 18 = .ok (.getfield 73, 3) := by decide +kernel
theorem dX8_changedBy_21 : decode cX8_changedBy 21 = .ok (.iload_n 3, 1) := by decide +kernel
theorem dX8_changedBy_22 : decode cX8_changedBy 22 = .ok (.iconst 1, 1) := by decide +kernel
theorem dX8_changedBy_23 : decode cX8_changedBy 23 = .ok (.iadd, 1) := by decide +kernel
theorem dX8_changedBy_24 : decode cX8_changedBy 24 = .ok (.iaload, 1) := by decide +kernel
theorem dX8_changedBy_25 : decode cX8_changedBy 25 = .ok (.goto 4, 3) := by decide +kernel
theorem dX8_changedBy_28 : decode cX8_changedBy 28 = .ok (.iconst (-1), 1) := by decide +kernel
theorem dX8_changedBy_29 : decode cX8_changedBy 29 = .ok (.ireturn, 1) := by decide +kernel
theorem dX8_pageAt_0 : decode cX8_pageAt 0 = .ok (.iconst 0, 1) := by decide +kernel
theorem dX8_pageAt_1 : decode cX8_pageAt 1 = .ok (.istore 4, 2) := by decide +kernel
theorem dX8_pageAt_3 : decode cX8_pageAt 3 = .ok (.iconst 1, 1) := by decide +kernel
theorem dX8_pageAt_4 : decode cX8_pageAt 4 = .ok (.istore 5, 2) := by decide +kernel
theorem dX8_pageAt_6 : decode cX8_pageAt 6 = .ok (.iload 5, 2) := by decide +kernel
theorem dX8_pageAt_8 : decode cX8_pageAt 8 = .ok (.iload_n 3, 1) := by decide +kernel
theorem dX8_pageAt_9 : decode cX8_pageAt 9 = .ok (.if_icmp .gt 68, 3) := by decide +kernel
theorem dX8_pageAt_12 : decode cX8_pageAt 12 = .ok (.aload_n 0, 1) := by decide +kernel
theorem dX8_pageAt_13 : decode cX8_pageAt 13 = .ok (.iload_n 2, 1) := by decide +kernel
theorem dX8_pageAt_14 : decode cX8_pageAt 14 = .ok (.iload 5, 2) := by decide +kernel
theorem dX8_pageAt_16 : decode cX8_pageAt 16 = .ok (.invokevirtual 283, 3) := by decide +kernel
theorem dX8_pageAt_19 : decode cX8_pageAt 19 = .ok (.iload_n 1, 1) := by decide +kernel
theorem dX8_pageAt_20 : decode cX8_pageAt 20 = .ok (.if_icmp .eq 6, 3) := by decide +kernel
theorem dX8_pageAt_23 : decode cX8_pageAt 23 = .ok (.goto 48, 3) := by decide +kernel
theorem dX8_pageAt_26 : decode cX8_pageAt 26 = .ok (.aload_n 0, 1) := by decide +kernel
theorem dX8_pageAt_27 : decode cX8_pageAt 27 = .ok (.iload_n 2, 1) := by decide +kernel
theorem dX8_pageAt_28 : decode cX8_pageAt 28 = .ok (.iload 5, 2) := by decide +kernel
theorem dX8_pageAt_30 : decode cX8_pageAt 30 = .ok (.invokevirtual 280, 3) := by decide +kernel
theorem dX8_pageAt_33 : decode cX8_pageAt 33 = .ok (.istore 6, 2) := by decide +kernel
theorem dX8_pageAt_35 : decode cX8_pageAt 35 = .ok (.aload_n 0, 1) := by decide +kernel
theorem dX8_pageAt_36 : decode cX8_pageAt 36 = .ok (.getfield 73, 3) := by decide +kernel
theorem dX8_pageAt_39 : decode cX8_pageAt 39 = .ok (.iload 6, 2) := by decide +kernel
theorem dX8_pageAt_41 : decode cX8_pageAt 41 = .ok (.iaload, 1) := by decide +kernel
theorem dX8_pageAt_42 : decode cX8_pageAt 42 = .ok (.ifCond .ne 15, 3) := by decide +kernel
theorem dX8_pageAt_45 : decode cX8_pageAt 45 = .ok (.aload_n 0, 1) := by decide +kernel
theorem dX8_pageAt_46 : decode cX8_pageAt 46 = .ok (.getfield 73, 3) := by decide +kernel
theorem dX8_pageAt_49 : decode cX8_pageAt 49 = .ok (.iload 6, 2) := by decide +kernel
theorem dX8_pageAt_51 : decode cX8_pageAt 51 = .ok (.iconst 2, 1) := by decide +kernel
theorem dX8_pageAt_52 : decode cX8_pageAt 52 = .ok (.iadd, 1) := by decide +kernel
theorem dX8_pageAt_53 : decode cX8_pageAt 53 = .ok (.iaload, 1) := by decide +kernel
theorem dX8_pageAt_54 : decode cX8_pageAt 54 = .ok (.goto 15, 3) := by decide +kernel
theorem dX8_pageAt_57 : decode cX8_pageAt 57 = .ok (.iload 4, 2) := by decide +kernel
theorem dX8_pageAt_59 : decode cX8_pageAt 59 = .ok (.aload_n 0, 1) := by decide +kernel
theorem dX8_pageAt_60 : decode cX8_pageAt 60 = .ok (.getfield 73, 3) := by decide +kernel
theorem dX8_pageAt_63 : decode cX8_pageAt 63 = .ok (.iload 6, 2) := by decide +kernel
theorem dX8_pageAt_65 : decode cX8_pageAt 65 = .ok (.iconst 2, 1) := by decide +kernel
theorem dX8_pageAt_66 : decode cX8_pageAt 66 = .ok (.iadd, 1) := by decide +kernel
theorem dX8_pageAt_67 : decode cX8_pageAt 67 = .ok (.iaload, 1) := by decide +kernel
theorem dX8_pageAt_68 : decode cX8_pageAt 68 = .ok (.iadd, 1) := by decide +kernel
theorem dX8_pageAt_69 : decode cX8_pageAt 69 = .ok (.istore 4, 2) := by decide +kernel
theorem dX8_pageAt_71 : decode cX8_pageAt 71 = .ok (.iinc 5 1, 3) := by decide +kernel
theorem dX8_pageAt_74 : decode cX8_pageAt 74 = .ok (.goto (-68), 3) := by decide +kernel
theorem dX8_pageAt_77 : decode cX8_pageAt 77 = .ok (.iload 4, 2) := by decide +kernel
theorem dX8_pageAt_79 : decode cX8_pageAt 79 = .ok (.ireturn, 1) := by decide +kernel
theorem dX8_ofCopy_0 : decode cX8_ofCopy 0 = .ok (.aload_n 0, 1) := by decide +kernel
theorem dX8_ofCopy_1 : decode cX8_ofCopy 1 = .ok (.getfield 73, 3) := by decide +kernel
theorem dX8_ofCopy_4 : decode cX8_ofCopy 4 = .ok (.bipush 60, 2) := by decide +kernel
theorem dX8_ofCopy_6 : decode cX8_ofCopy 6 = .ok (.iconst 4, 1) := by decide +kernel
theorem dX8_ofCopy_7 : decode cX8_ofCopy 7 = .ok (.iload_n 1, 1) := by decide +kernel
theorem dX8_ofCopy_8 : decode cX8_ofCopy 8 = .ok (.imul, 1) := by decide +kernel
theorem dX8_ofCopy_9 : decode cX8_ofCopy 9 = .ok (.iadd, 1) := by decide +kernel
theorem dX8_ofCopy_10 : decode cX8_ofCopy 10 = .ok (.iload_n 2, 1) := by decide +kernel
theorem dX8_ofCopy_11 : decode cX8_ofCopy 11 = .ok (.iadd, 1) := by decide +kernel
theorem dX8_ofCopy_12 : decode cX8_ofCopy 12 = .ok (.iaload, 1) := by decide +kernel
theorem dX8_ofCopy_13 : decode cX8_ofCopy 13 = .ok (.ireturn, 1) := by decide +kernel
theorem dX8_takenAt_0 : decode cX8_takenAt 0 = .ok (.iload_n 1, 1) := by decide +kernel
theorem dX8_takenAt_1 : decode cX8_takenAt 1 = .ok (.istore_n 3, 1) := by decide +kernel
theorem dX8_takenAt_2 : decode cX8_takenAt 2 = .ok (.iload_n 3, 1) := by decide +kernel
theorem dX8_takenAt_3 : decode cX8_takenAt 3 = .ok (.ifCond .lt 40, 3) := by decide +kernel
theorem dX8_takenAt_6 : decode cX8_takenAt 6 = .ok (.bipush 100, 2) := by decide +kernel
theorem dX8_takenAt_8 : decode cX8_takenAt 8 = .ok (.iconst 4, 1) := by decide +kernel
theorem dX8_takenAt_9 : decode cX8_takenAt 9 = .ok (.bipush 8, 2) := by decide +kernel
theorem dX8_takenAt_11 : decode cX8_takenAt 11 = .ok (.iload_n 3, 1) := by decide +kernel
theorem dX8_takenAt_12 : decode cX8_takenAt 12 = .ok (.imul, 1) := by decide +kernel
theorem dX8_takenAt_13 : decode cX8_takenAt 13 = .ok (.iload_n 2, 1) := by decide +kernel
theorem dX8_takenAt_14 : decode cX8_takenAt 14 = .ok (.iadd, 1) := by decide +kernel
theorem dX8_takenAt_15 : decode cX8_takenAt 15 = .ok (.imul, 1) := by decide +kernel
theorem dX8_takenAt_16 : decode cX8_takenAt 16 = .ok (.iadd, 1) := by decide +kernel
theorem dX8_takenAt_17 : decode cX8_takenAt 17 = .ok (.istore 4, 2) := by decide +kernel
theorem dX8_takenAt_19 : decode cX8_takenAt 19 = .ok (.aload_n 0, 1) := by decide +kernel
theorem dX8_takenAt_20 : decode cX8_takenAt 20 = .ok (.getfield 73, 3) := by decide +kernel
theorem dX8_takenAt_23 : decode cX8_takenAt 23 = .ok (.iload 4, 2) := by decide +kernel
theorem dX8_takenAt_25 : decode cX8_takenAt 25 = .ok (.iaload, 1) := by decide +kernel
theorem dX8_takenAt_26 : decode cX8_takenAt 26 = .ok (.iconst 1, 1) := by decide +kernel
theorem dX8_takenAt_27 : decode cX8_takenAt 27 = .ok (.if_icmp .ne 6, 3) := by decide +kernel
theorem dX8_takenAt_30 : decode cX8_takenAt 30 = .ok (.iload 4, 2) := by decide +kernel
theorem dX8_takenAt_32 : decode cX8_takenAt 32 = .ok (.ireturn, 1) := by decide +kernel
theorem dX8_takenAt_33 : decode cX8_takenAt 33 = .ok (.aload_n 0, 1) := by decide +kernel
theorem dX8_takenAt_34 : decode cX8_takenAt 34 = .ok (.iload_n 3, 1) := by decide +kernel
theorem dX8_takenAt_35 : decode cX8_takenAt 35 = .ok (.iconst 1, 1) := by decide +kernel
theorem dX8_takenAt_36 : decode cX8_takenAt 36 = .ok (.invokevirtual 286, 3) := by decide +kernel
theorem dX8_takenAt_39 : decode cX8_takenAt 39 = .ok (.istore_n 3, 1) := by decide +kernel
theorem dX8_takenAt_40 : decode cX8_takenAt 40 = .ok (.goto (-38), 3) := by decide +kernel
theorem dX8_takenAt_43 : decode cX8_takenAt 43 = .ok (.iconst (-1), 1) := by decide +kernel
theorem dX8_takenAt_44 : decode cX8_takenAt 44 = .ok (.ireturn, 1) := by decide +kernel
theorem dX8_isFit_0 : decode cX8_isFit 0 = .ok (.iload_n 1, 1) := by decide +kernel
theorem dX8_isFit_1 : decode cX8_isFit 1 = .ok (.istore_n 2, 1) := by decide +kernel
theorem dX8_isFit_2 : decode cX8_isFit 2 = .ok (.iload_n 2, 1) := by decide +kernel
theorem dX8_isFit_3 : decode cX8_isFit 3 = .ok (.ifCond .lt 35, 3) := by decide +kernel
theorem dX8_isFit_6 : decode cX8_isFit 6 = .ok (.aload_n 0, 1) := by decide +kernel
theorem dX8_isFit_7 : decode cX8_isFit 7 = .ok (.iload_n 2, 1) := by decide +kernel
theorem dX8_isFit_8 : decode cX8_isFit 8 = .ok (.iconst 2, 1) := by decide +kernel
theorem dX8_isFit_9 : decode cX8_isFit 9 = .ok (.invokevirtual 286, 3) := by decide +kernel
theorem dX8_isFit_12 : decode cX8_isFit 12 = .ok (.iconst 1, 1) := by decide +kernel
theorem dX8_isFit_13 : decode cX8_isFit 13 = .ok (.if_icmp .eq 13, 3) := by decide +kernel
theorem dX8_isFit_16 : decode cX8_isFit 16 = .ok (.aload_n 0, 1) := by decide +kernel
theorem dX8_isFit_17 : decode cX8_isFit 17 = .ok (.iload_n 2, 1) := by decide +kernel
theorem dX8_isFit_18 : decode cX8_isFit 18 = .ok (.iconst 3, 1) := by decide +kernel
theorem dX8_isFit_19 : decode cX8_isFit 19 = .ok (.invokevirtual 286, 3) := by decide +kernel
theorem dX8_isFit_22 : decode cX8_isFit 22 = .ok (.iconst 1, 1) := by decide +kernel
theorem dX8_isFit_23 : decode cX8_isFit 23 = .ok (.if_icmp .ne 5, 3) := by decide +kernel
theorem dX8_isFit_26 : decode cX8_isFit 26 = .ok (.iconst 0, 1) := by decide +kernel
theorem dX8_isFit_27 : decode cX8_isFit 27 = .ok (.ireturn, 1) := by decide +kernel
theorem dX8_isFit_28 : decode cX8_isFit 28 = .ok (.aload_n 0, 1) := by decide +kernel
theorem dX8_isFit_29 : decode cX8_isFit 29 = .ok (.iload_n 2, 1) := by decide +kernel
theorem dX8_isFit_30 : decode cX8_isFit 30 = .ok (.iconst 1, 1) := by decide +kernel
theorem dX8_isFit_31 : decode cX8_isFit 31 = .ok (.invokevirtual 286, 3) := by decide +kernel
theorem dX8_isFit_34 : decode cX8_isFit 34 = .ok (.istore_n 2, 1) := by decide +kernel
theorem dX8_isFit_35 : decode cX8_isFit 35 = .ok (.goto (-33), 3) := by decide +kernel
theorem dX8_isFit_38 : decode cX8_isFit 38 = .ok (.iconst 0, 1) := by decide +kernel
theorem dX8_isFit_39 : decode cX8_isFit 39 = .ok (.istore_n 3, 1) := by decide +kernel
theorem dX8_isFit_40 : decode cX8_isFit 40 = .ok (.iload_n 3, 1) := by decide +kernel
theorem dX8_isFit_41 : decode cX8_isFit 41 = .ok (.aload_n 0, 1) := by decide +kernel
theorem dX8_isFit_42 : decode cX8_isFit 42 = .ok (.getfield 73, 3) := by decide +kernel
theorem dX8_isFit_45 : decode cX8_isFit 45 = .ok (.iconst 0, 1) := by decide +kernel
theorem dX8_isFit_46 : decode cX8_isFit 46 = .ok (.iaload, 1) := by decide +kernel
theorem dX8_isFit_47 : decode cX8_isFit 47 = .ok (.if_icmp .ge 20, 3) := by decide +kernel
theorem dX8_isFit_50 : decode cX8_isFit 50 = .ok (.aload_n 0, 1) := by decide +kernel
theorem dX8_isFit_51 : decode cX8_isFit 51 = .ok (.iload_n 1, 1) := by decide +kernel
theorem dX8_isFit_52 : decode cX8_isFit 52 = .ok (.iload_n 3, 1) := by decide +kernel
theorem dX8_isFit_53 : decode cX8_isFit 53 = .ok (.invokevirtual 289, 3) := by decide +kernel
theorem dX8_isFit_56 : decode cX8_isFit 56 = .ok (.ifCond .ge 5, 3) := by decide +kernel
theorem dX8_isFit_59 : decode cX8_isFit 59 = .ok (.iconst 0, 1) := by decide +kernel
theorem dX8_isFit_60 : decode cX8_isFit 60 = .ok (.ireturn, 1) := by decide +kernel
theorem dX8_isFit_61 : decode cX8_isFit 61 = .ok (.iinc 3 1, 3) := by decide +kernel
theorem dX8_isFit_64 : decode cX8_isFit 64 = .ok (.goto (-24), 3) := by decide +kernel
theorem dX8_isFit_67 : decode cX8_isFit 67 = .ok (.iconst 1, 1) := by decide +kernel
theorem dX8_isFit_68 : decode cX8_isFit 68 = .ok (.ireturn, 1) := by decide +kernel
theorem dX8_newCopy_0 : decode cX8_newCopy 0 = .ok (.aload_n 0, 1) := by decide +kernel
theorem dX8_newCopy_1 : decode cX8_newCopy 1 = .ok (.getfield 73, 3) := by decide +kernel
theorem dX8_newCopy_4 : decode cX8_newCopy 4 = .ok (.iconst 5, 1) := by decide +kernel
theorem dX8_newCopy_5 : decode cX8_newCopy 5 = .ok (.iaload, 1) := by decide +kernel
theorem dX8_newCopy_6 : decode cX8_newCopy 6 = .ok (.istore 4, 2) := by decide +kernel
theorem dX8_newCopy_8 : decode cX8_newCopy 8 = .ok (.bipush 60, 2) := by decide +kernel
theorem dX8_newCopy_10 : decode cX8_newCopy 10 = .ok (.iconst 4, 1) := by decide +kernel
theorem dX8_newCopy_11 : decode cX8_newCopy 11 = .ok (.iload 4, 2) := by decide +kernel
theorem dX8_newCopy_13 : decode cX8_newCopy 13 = .ok (.imul, 1) := by decide +kernel
theorem dX8_newCopy_14 : decode cX8_newCopy 14 = .ok (.iadd, 1) := by decide +kernel
theorem dX8_newCopy_15 : decode cX8_newCopy 15 = .ok (.istore 5, 2) := by decide +kernel
theorem dX8_newCopy_17 : decode cX8_newCopy 17 = .ok (.aload_n 0, 1) := by decide +kernel
theorem dX8_newCopy_18 : decode cX8_newCopy 18 = .ok (.getfield 73, 3) := by decide +kernel
theorem dX8_newCopy_21 : decode cX8_newCopy 21 = .ok (.iload 5, 2) := by decide +kernel
theorem dX8_newCopy_23 : decode cX8_newCopy 23 = .ok (.iload_n 1, 1) := by decide +kernel
theorem dX8_newCopy_24 : decode cX8_newCopy 24 = .ok (.iastore, 1) := by decide +kernel
theorem dX8_newCopy_25 : decode cX8_newCopy 25 = .ok (.aload_n 0, 1) := by decide +kernel
theorem dX8_newCopy_26 : decode cX8_newCopy 26 = .ok (.getfield 73, 3) := by decide +kernel
theorem dX8_newCopy_29 : decode cX8_newCopy 29 = .ok (.iload 5, 2) := by decide +kernel
theorem dX8_newCopy_31 : decode cX8_newCopy 31 = .ok (.iconst 1, 1) := by decide +kernel
theorem dX8_newCopy_32 : decode cX8_newCopy 32 = .ok (.iadd, 1) := by decide +kernel
theorem dX8_newCopy_33 : decode cX8_newCopy 33 = .ok (.iload_n 2, 1) := by decide +kernel
theorem dX8_newCopy_34 : decode cX8_newCopy 34 = .ok (.iastore, 1) := by decide +kernel
theorem dX8_newCopy_35 : decode cX8_newCopy 35 = .ok (.aload_n 0, 1) := by decide +kernel
theorem dX8_newCopy_36 : decode cX8_newCopy 36 = .ok (.getfield 73, 3) := by decide +kernel
theorem dX8_newCopy_39 : decode cX8_newCopy 39 = .ok (.iload 5, 2) := by decide +kernel
theorem dX8_newCopy_41 : decode cX8_newCopy 41 = .ok (.iconst 2, 1) := by decide +kernel
theorem dX8_newCopy_42 : decode cX8_newCopy 42 = .ok (.iadd, 1) := by decide +kernel
theorem dX8_newCopy_43 : decode cX8_newCopy 43 = .ok (.iload_n 3, 1) := by decide +kernel
theorem dX8_newCopy_44 : decode cX8_newCopy 44 = .ok (.iastore, 1) := by decide +kernel
theorem dX8_newCopy_45 : decode cX8_newCopy 45 = .ok (.aload_n 0, 1) := by decide +kernel
theorem dX8_newCopy_46 : decode cX8_newCopy 46 = .ok (.getfield 73, 3) := by decide +kernel
theorem dX8_newCopy_49 : decode cX8_newCopy 49 = .ok (.iload 5, 2) := by decide +kernel
theorem dX8_newCopy_51 : decode cX8_newCopy 51 = .ok (.iconst 3, 1) := by decide +kernel
theorem dX8_newCopy_52 : decode cX8_newCopy 52 = .ok (.iadd, 1) := by decide +kernel
theorem dX8_newCopy_53 : decode cX8_newCopy 53 = .ok (.iconst 0, 1) := by decide +kernel
theorem dX8_newCopy_54 : decode cX8_newCopy 54 = .ok (.iastore, 1) := by decide +kernel
theorem dX8_newCopy_55 : decode cX8_newCopy 55 = .ok (.iconst 0, 1) := by decide +kernel
theorem dX8_newCopy_56 : decode cX8_newCopy 56 = .ok (.istore 6, 2) := by decide +kernel
theorem dX8_newCopy_58 : decode cX8_newCopy 58 = .ok (.iload 6, 2) := by decide +kernel
theorem dX8_newCopy_60 : decode cX8_newCopy 60 = .ok (.bipush 8, 2) := by decide +kernel
theorem dX8_newCopy_62 : decode cX8_newCopy 62 = .ok (.if_icmp .ge 28, 3) := by decide +kernel
theorem dX8_newCopy_65 : decode cX8_newCopy 65 = .ok (.aload_n 0, 1) := by decide +kernel
theorem dX8_newCopy_66 : decode cX8_newCopy 66 = .ok (.getfield 73, 3) := by decide +kernel
theorem dX8_newCopy_69 : decode cX8_newCopy 69 = .ok (.bipush 100, 2) := by decide +kernel
theorem dX8_newCopy_71 : decode cX8_newCopy 71 = .ok (.iconst 4, 1) := by decide +kernel
theorem dX8_newCopy_72 : decode cX8_newCopy 72 = .ok (.bipush 8, 2) := by decide +kernel
theorem dX8_newCopy_74 : decode cX8_newCopy 74 = .ok (.iload 4, 2) := by decide +kernel
theorem dX8_newCopy_76 : decode cX8_newCopy 76 = .ok (.imul, 1) := by decide +kernel
theorem dX8_newCopy_77 : decode cX8_newCopy 77 = .ok (.iload 6, 2) := by decide +kernel
theorem dX8_newCopy_79 : decode cX8_newCopy 79 = .ok (.iadd, 1) := by decide +kernel
theorem dX8_newCopy_80 : decode cX8_newCopy 80 = .ok (.imul, 1) := by decide +kernel
theorem dX8_newCopy_81 : decode cX8_newCopy 81 = .ok (.iadd, 1) := by decide +kernel
theorem dX8_newCopy_82 : decode cX8_newCopy 82 = .ok (.iconst 0, 1) := by decide +kernel
theorem dX8_newCopy_83 : decode cX8_newCopy 83 = .ok (.iastore, 1) := by decide +kernel
theorem dX8_newCopy_84 : decode cX8_newCopy 84 = .ok (.iinc 6 1, 3) := by decide +kernel
theorem dX8_newCopy_87 : decode cX8_newCopy 87 = .ok (.goto (-29), 3) := by decide +kernel
theorem dX8_newCopy_90 : decode cX8_newCopy 90 = .ok (.aload_n 0, 1) := by decide +kernel
theorem dX8_newCopy_91 : decode cX8_newCopy 91 = .ok (.getfield 73, 3) := by decide +kernel
theorem dX8_newCopy_94 : decode cX8_newCopy 94 = .ok (.iconst 5, 1) := by decide +kernel
theorem dX8_newCopy_95 : decode cX8_newCopy 95 = .ok (.dup2, 1) := by decide +kernel
theorem dX8_newCopy_96 : decode cX8_newCopy 96 = .ok (.iaload, 1) := by decide +kernel
theorem dX8_newCopy_97 : decode cX8_newCopy 97 = .ok (.iconst 1, 1) := by decide +kernel
theorem dX8_newCopy_98 : decode cX8_newCopy 98 = .ok (.iadd, 1) := by decide +kernel
theorem dX8_newCopy_99 : decode cX8_newCopy 99 = .ok (.iastore, 1) := by decide +kernel
theorem dX8_newCopy_100 : decode cX8_newCopy 100 = .ok (.iload 4, 2) := by decide +kernel
theorem dX8_newCopy_102 : decode cX8_newCopy 102 = .ok (.ireturn, 1) := by decide +kernel
theorem dX8_takes_0 : decode cX8_takes 0 = .ok (.bipush 100, 2) := by decide +kernel
theorem dX8_takes_2 : decode cX8_takes 2 = .ok (.iconst 4, 1) := by decide +kernel
theorem dX8_takes_3 : decode cX8_takes 3 = .ok (.bipush 8, 2) := by decide +kernel
theorem dX8_takes_5 : decode cX8_takes 5 = .ok (.iload_n 1, 1) := by decide +kernel
theorem dX8_takes_6 : decode cX8_takes 6 = .ok (.imul, 1) := by decide +kernel
theorem dX8_takes_7 : decode cX8_takes 7 = .ok (.iload_n 2, 1) := by decide +kernel
theorem dX8_takes_8 : decode cX8_takes 8 = .ok (.iadd, 1) := by decide +kernel
theorem dX8_takes_9 : decode cX8_takes 9 = .ok (.imul, 1) := by decide +kernel
theorem dX8_takes_10 : decode cX8_takes 10 = .ok (.iadd, 1) := by decide +kernel
theorem dX8_takes_11 : decode cX8_takes 11 = .ok (.istore 6, 2) := by decide +kernel
theorem dX8_takes_13 : decode cX8_takes 13 = .ok (.aload_n 0, 1) := by decide +kernel
theorem dX8_takes_14 : decode cX8_takes 14 = .ok (.getfield 73, 3) := by decide +kernel
theorem dX8_takes_17 : decode cX8_takes 17 = .ok (.iload 6, 2) := by decide +kernel
theorem dX8_takes_19 : decode cX8_takes 19 = .ok (.iconst 1, 1) := by decide +kernel
theorem dX8_takes_20 : decode cX8_takes 20 = .ok (.iastore, 1) := by decide +kernel
theorem dX8_takes_21 : decode cX8_takes 21 = .ok (.aload_n 0, 1) := by decide +kernel
theorem dX8_takes_22 : decode cX8_takes 22 = .ok (.getfield 73, 3) := by decide +kernel
theorem dX8_takes_25 : decode cX8_takes 25 = .ok (.iload 6, 2) := by decide +kernel
theorem dX8_takes_27 : decode cX8_takes 27 = .ok (.iconst 1, 1) := by decide +kernel
theorem dX8_takes_28 : decode cX8_takes 28 = .ok (.iadd, 1) := by decide +kernel
theorem dX8_takes_29 : decode cX8_takes 29 = .ok (.iload_n 3, 1) := by decide +kernel
theorem dX8_takes_30 : decode cX8_takes 30 = .ok (.iastore, 1) := by decide +kernel
theorem dX8_takes_31 : decode cX8_takes 31 = .ok (.aload_n 0, 1) := by decide +kernel
theorem dX8_takes_32 : decode cX8_takes 32 = .ok (.getfield 73, 3) := by decide +kernel
theorem dX8_takes_35 : decode cX8_takes 35 = .ok (.iload 6, 2) := by decide +kernel
theorem dX8_takes_37 : decode cX8_takes 37 = .ok (.iconst 2, 1) := by decide +kernel
theorem dX8_takes_38 : decode cX8_takes 38 = .ok (.iadd, 1) := by decide +kernel
theorem dX8_takes_39 : decode cX8_takes 39 = .ok (.iload 4, 2) := by decide +kernel
theorem dX8_takes_41 : decode cX8_takes 41 = .ok (.iastore, 1) := by decide +kernel
theorem dX8_takes_42 : decode cX8_takes 42 = .ok (.aload_n 0, 1) := by decide +kernel
theorem dX8_takes_43 : decode cX8_takes 43 = .ok (.getfield 73, 3) := by decide +kernel
theorem dX8_takes_46 : decode cX8_takes 46 = .ok (.iload 6, 2) := by decide +kernel
theorem dX8_takes_48 : decode cX8_takes 48 = .ok (.iconst 3, 1) := by decide +kernel
theorem dX8_takes_49 : decode cX8_takes 49 = .ok (.iadd, 1) := by decide +kernel
theorem dX8_takes_50 : decode cX8_takes 50 = .ok (.iload 5, 2) := by decide +kernel
theorem dX8_takes_52 : decode cX8_takes 52 = .ok (.iastore, 1) := by decide +kernel
theorem dX8_takes_53 : decode cX8_takes 53 = .ok (.return_, 1) := by decide +kernel
theorem dX8_holderOf_0 : decode cX8_holderOf 0 = .ok (.iload_n 1, 1) := by decide +kernel
theorem dX8_holderOf_1 : decode cX8_holderOf 1 = .ok (.istore_n 3, 1) := by decide +kernel
theorem dX8_holderOf_2 : decode cX8_holderOf 2 = .ok (.iload_n 3, 1) := by decide +kernel
theorem dX8_holderOf_3 : decode cX8_holderOf 3 = .ok (.ifCond .le 21, 3) := by decide +kernel
theorem dX8_holderOf_6 : decode cX8_holderOf 6 = .ok (.aload_n 0, 1) := by decide +kernel
theorem dX8_holderOf_7 : decode cX8_holderOf 7 = .ok (.iload_n 3, 1) := by decide +kernel
theorem dX8_holderOf_8 : decode cX8_holderOf 8 = .ok (.invokevirtual 292, 3) := by decide +kernel
theorem dX8_holderOf_11 : decode cX8_holderOf 11 = .ok (.iload_n 2, 1) := by decide +kernel
theorem dX8_holderOf_12 : decode cX8_holderOf 12 = .ok (.if_icmp .le 12, 3) := by decide +kernel
theorem dX8_holderOf_15 : decode cX8_holderOf 15 = .ok (.aload_n 0, 1) := by decide +kernel
theorem dX8_holderOf_16 : decode cX8_holderOf 16 = .ok (.iload_n 3, 1) := by decide +kernel
theorem dX8_holderOf_17 : decode cX8_holderOf 17 = .ok (.invokevirtual 268, 3) := by decide +kernel
theorem dX8_holderOf_20 : decode cX8_holderOf 20 = .ok (.istore_n 3, 1) := by decide +kernel
theorem dX8_holderOf_21 : decode cX8_holderOf 21 = .ok (.goto (-19), 3) := by decide +kernel
theorem dX8_holderOf_24 : decode cX8_holderOf 24 = .ok (.iload_n 3, 1) := by decide +kernel
theorem dX8_holderOf_25 : decode cX8_holderOf 25 = .ok (.ireturn, 1) := by decide +kernel
theorem dX8_keptOf_0 : decode cX8_keptOf 0 = .ok (.aload_n 0, 1) := by decide +kernel
theorem dX8_keptOf_1 : decode cX8_keptOf 1 = .ok (.getfield 73, 3) := by decide +kernel
theorem dX8_keptOf_4 : decode cX8_keptOf 4 = .ok (.sipush 420, 3) := by decide +kernel
theorem dX8_keptOf_7 : decode cX8_keptOf 7 = .ok (.bipush 120, 2) := by decide +kernel
theorem dX8_keptOf_9 : decode cX8_keptOf 9 = .ok (.iload_n 1, 1) := by decide +kernel
theorem dX8_keptOf_10 : decode cX8_keptOf 10 = .ok (.imul, 1) := by decide +kernel
theorem dX8_keptOf_11 : decode cX8_keptOf 11 = .ok (.iadd, 1) := by decide +kernel
theorem dX8_keptOf_12 : decode cX8_keptOf 12 = .ok (.iload_n 2, 1) := by decide +kernel
theorem dX8_keptOf_13 : decode cX8_keptOf 13 = .ok (.iadd, 1) := by decide +kernel
theorem dX8_keptOf_14 : decode cX8_keptOf 14 = .ok (.iaload, 1) := by decide +kernel
theorem dX8_keptOf_15 : decode cX8_keptOf 15 = .ok (.ireturn, 1) := by decide +kernel
theorem dX8_isAtHand_0 : decode cX8_isAtHand 0 = .ok (.aload_n 0, 1) := by decide +kernel
theorem dX8_isAtHand_1 : decode cX8_isAtHand 1 = .ok (.iload_n 1, 1) := by decide +kernel
theorem dX8_isAtHand_2 : decode cX8_isAtHand 2 = .ok (.iload_n 2, 1) := by decide +kernel
theorem dX8_isAtHand_3 : decode cX8_isAtHand 3 = .ok (.invokevirtual 295, 3) := by decide +kernel
theorem dX8_isAtHand_6 : decode cX8_isAtHand 6 = .ok (.ifCond .gt 31, 3) := by decide +kernel
theorem dX8_isAtHand_9 : decode cX8_isAtHand 9 = .ok (.iload_n 1, 1) := by decide +kernel
theorem dX8_isAtHand_10 : decode cX8_isAtHand 10 = .ok (.aload_n 0, 1) := by decide +kernel
theorem dX8_isAtHand_11 : decode cX8_isAtHand 11 = .ok (.getfield 73, 3) := by decide +kernel
theorem dX8_isAtHand_14 : decode cX8_isAtHand 14 = .ok (.iconst 3, 1) := by decide +kernel
theorem dX8_isAtHand_15 : decode cX8_isAtHand 15 = .ok (.iaload, 1) := by decide +kernel
theorem dX8_isAtHand_16 : decode cX8_isAtHand 16 = .ok (.if_icmp .ne 25, 3) := by decide +kernel
theorem dX8_isAtHand_19 : decode cX8_isAtHand 19 = .ok (.iload_n 2, 1) := by decide +kernel
theorem dX8_isAtHand_20 : decode cX8_isAtHand 20 = .ok (.iconst 1, 1) := by decide +kernel
theorem dX8_isAtHand_21 : decode cX8_isAtHand 21 = .ok (.iadd, 1) := by decide +kernel
theorem dX8_isAtHand_22 : decode cX8_isAtHand 22 = .ok (.aload_n 0, 1) := by decide +kernel
theorem dX8_isAtHand_23 : decode cX8_isAtHand 23 = .ok (.getfield 73, 3) := by decide +kernel
theorem dX8_isAtHand_26 : decode cX8_isAtHand 26 = .ok (.iconst 1, 1) := by decide +kernel
theorem dX8_isAtHand_27 : decode cX8_isAtHand 27 = .ok (.iaload, 1) := by decide +kernel
theorem dX8_isAtHand_28 : decode cX8_isAtHand 28 = .ok (.imul, 1) := by decide +kernel
theorem dX8_isAtHand_29 : decode cX8_isAtHand 29 = .ok (.aload_n 0, 1) := by decide +kernel
theorem dX8_isAtHand_30 : decode cX8_isAtHand 30 = .ok (.iload_n 1, 1) := by decide +kernel
theorem dX8_isAtHand_31 : decode cX8_isAtHand 31 = .ok (.invokevirtual 217, 3) := by decide +kernel
theorem dX8_isAtHand_34 : decode cX8_isAtHand 34 = .ok (.if_icmp .le 7, 3) := by decide +kernel
theorem dX8_isAtHand_37 : decode cX8_isAtHand 37 = .ok (.iconst 1, 1) := by decide +kernel
theorem dX8_isAtHand_38 : decode cX8_isAtHand 38 = .ok (.goto 4, 3) := by decide +kernel
theorem dX8_isAtHand_41 : decode cX8_isAtHand 41 = .ok (.iconst 0, 1) := by decide +kernel
theorem dX8_isAtHand_42 : decode cX8_isAtHand 42 = .ok (.ireturn, 1) := by decide +kernel
theorem dX8_hasPiece_0 : decode cX8_hasPiece 0 = .ok (.aload_n 0, 1) := by decide +kernel
theorem dX8_hasPiece_1 : decode cX8_hasPiece 1 = .ok (.iload_n 1, 1) := by decide +kernel
theorem dX8_hasPiece_2 : decode cX8_hasPiece 2 = .ok (.invokevirtual 262, 3) := by decide +kernel
theorem dX8_hasPiece_5 : decode cX8_hasPiece 5 = .ok (.ifCond .eq 38, 3) := by decide +kernel
theorem dX8_hasPiece_8 : decode cX8_hasPiece 8 = .ok (.iload_n 2, 1) := by decide +kernel
theorem dX8_hasPiece_9 : decode cX8_hasPiece 9 = .ok (.aload_n 0, 1) := by decide +kernel
theorem dX8_hasPiece_10 : decode cX8_hasPiece 10 = .ok (.iload_n 1, 1) := by decide +kernel
theorem dX8_hasPiece_11 : decode cX8_hasPiece 11 = .ok (.invokevirtual 292, 3) := by decide +kernel
theorem dX8_hasPiece_14 : decode cX8_hasPiece 14 = .ok (.if_icmp .lt 29, 3) := by decide +kernel
theorem dX8_hasPiece_17 : decode cX8_hasPiece 17 = .ok (.iload_n 2, 1) := by decide +kernel
theorem dX8_hasPiece_18 : decode cX8_hasPiece 18 = .ok (.bipush 120, 2) := by decide +kernel
theorem dX8_hasPiece_20 : decode cX8_hasPiece 20 = .ok (.if_icmp .ge 23, 3) := by decide +kernel
theorem dX8_hasPiece_23 : decode cX8_hasPiece 23 = .ok (.aload_n 0, 1) := by decide +kernel
theorem dX8_hasPiece_24 : decode cX8_hasPiece 24 = .ok (.iload_n 1, 1) := by decide +kernel
theorem dX8_hasPiece_25 : decode cX8_hasPiece 25 = .ok (.invokevirtual 217, 3) := by decide +kernel
theorem dX8_hasPiece_28 : decode cX8_hasPiece 28 = .ok (.iload_n 2, 1) := by decide +kernel
theorem dX8_hasPiece_29 : decode cX8_hasPiece 29 = .ok (.aload_n 0, 1) := by decide +kernel
theorem dX8_hasPiece_30 : decode cX8_hasPiece 30 = .ok (.getfield 73, 3) := by decide +kernel
theorem dX8_hasPiece_33 : decode cX8_hasPiece 33 = .ok (.iconst 1, 1) := by decide +kernel
theorem dX8_hasPiece_34 : decode cX8_hasPiece 34 = .ok (.iaload, 1) := by decide +kernel
theorem dX8_hasPiece_35 : decode cX8_hasPiece 35 = .ok (.imul, 1) := by decide +kernel
theorem dX8_hasPiece_36 : decode cX8_hasPiece 36 = .ok (.if_icmp .le 7, 3) := by decide +kernel
theorem dX8_hasPiece_39 : decode cX8_hasPiece 39 = .ok (.iconst 1, 1) := by decide +kernel
theorem dX8_hasPiece_40 : decode cX8_hasPiece 40 = .ok (.goto 4, 3) := by decide +kernel
theorem dX8_hasPiece_43 : decode cX8_hasPiece 43 = .ok (.iconst 0, 1) := by decide +kernel
theorem dX8_hasPiece_44 : decode cX8_hasPiece 44 = .ok (.ireturn, 1) := by decide +kernel
theorem dX8_isBranch_0 : decode cX8_isBranch 0 = .ok (.iload_n 1, 1) := by decide +kernel
theorem dX8_isBranch_1 : decode cX8_isBranch 1 = .ok (.istore 4, 2) := by decide +kernel
theorem dX8_isBranch_3 : decode cX8_isBranch 3 = .ok (.iload 4, 2) := by decide +kernel
theorem dX8_isBranch_5 : decode cX8_isBranch 5 = .ok (.ifCond .lt 41, 3) := by decide +kernel
theorem dX8_isBranch_8 : decode cX8_isBranch 8 = .ok (.iload 4, 2) := by decide +kernel
theorem dX8_isBranch_10 : decode cX8_isBranch 10 = .ok (.iload_n 2, 1) := by decide +kernel
theorem dX8_isBranch_11 : decode cX8_isBranch 11 = .ok (.if_icmp .eq 35, 3) := by decide +kernel
theorem dX8_isBranch_14 : decode cX8_isBranch 14 = .ok (.iload_n 3, 1) := by decide +kernel
theorem dX8_isBranch_15 : decode cX8_isBranch 15 = .ok (.aload_n 0, 1) := by decide +kernel
theorem dX8_isBranch_16 : decode cX8_isBranch 16 = .ok (.iload 4, 2) := by decide +kernel
theorem dX8_isBranch_18 : decode cX8_isBranch 18 = .ok (.invokevirtual 265, 3) := by decide +kernel
theorem dX8_isBranch_21 : decode cX8_isBranch 21 = .ok (.if_icmp .le 5, 3) := by decide +kernel
theorem dX8_isBranch_24 : decode cX8_isBranch 24 = .ok (.iconst 1, 1) := by decide +kernel
theorem dX8_isBranch_25 : decode cX8_isBranch 25 = .ok (.ireturn, 1) := by decide +kernel
theorem dX8_isBranch_26 : decode cX8_isBranch 26 = .ok (.iload 4, 2) := by decide +kernel
theorem dX8_isBranch_28 : decode cX8_isBranch 28 = .ok (.ifCond .ne 7, 3) := by decide +kernel
theorem dX8_isBranch_31 : decode cX8_isBranch 31 = .ok (.iconst (-1), 1) := by decide +kernel
theorem dX8_isBranch_32 : decode cX8_isBranch 32 = .ok (.goto 9, 3) := by decide +kernel
theorem dX8_isBranch_35 : decode cX8_isBranch 35 = .ok (.aload_n 0, 1) := by decide +kernel
theorem dX8_isBranch_36 : decode cX8_isBranch 36 = .ok (.iload 4, 2) := by decide +kernel
theorem dX8_isBranch_38 : decode cX8_isBranch 38 = .ok (.invokevirtual 268, 3) := by decide +kernel
theorem dX8_isBranch_41 : decode cX8_isBranch 41 = .ok (.istore 4, 2) := by decide +kernel
theorem dX8_isBranch_43 : decode cX8_isBranch 43 = .ok (.goto (-40), 3) := by decide +kernel
theorem dX8_isBranch_46 : decode cX8_isBranch 46 = .ok (.iload 4, 2) := by decide +kernel
theorem dX8_isBranch_48 : decode cX8_isBranch 48 = .ok (.ifCond .ge 7, 3) := by decide +kernel
theorem dX8_isBranch_51 : decode cX8_isBranch 51 = .ok (.iconst 1, 1) := by decide +kernel
theorem dX8_isBranch_52 : decode cX8_isBranch 52 = .ok (.goto 4, 3) := by decide +kernel
theorem dX8_isBranch_55 : decode cX8_isBranch 55 = .ok (.iconst 0, 1) := by decide +kernel
theorem dX8_isBranch_56 : decode cX8_isBranch 56 = .ok (.ireturn, 1) := by decide +kernel
theorem dX8_isAnyBranch_0 : decode cX8_isAnyBranch 0 = .ok (.iconst 0, 1) := by decide +kernel
theorem dX8_isAnyBranch_1 : decode cX8_isAnyBranch 1 = .ok (.istore_n 3, 1) := by decide +kernel
theorem dX8_isAnyBranch_2 : decode cX8_isAnyBranch 2 = .ok (.iload_n 3, 1) := by decide +kernel
theorem dX8_isAnyBranch_3 : decode cX8_isAnyBranch 3 = .ok (.aload_n 0, 1) := by decide +kernel
theorem dX8_isAnyBranch_4 : decode cX8_isAnyBranch 4 = .ok (.getfield 73, 3) := by decide +kernel
theorem dX8_isAnyBranch_7 : decode cX8_isAnyBranch 7 = .ok (.iconst 0, 1) := by decide +kernel
theorem dX8_isAnyBranch_8 : decode cX8_isAnyBranch 8 = .ok (.iaload, 1) := by decide +kernel
theorem dX8_isAnyBranch_9 : decode cX8_isAnyBranch 9 = .ok (.if_icmp .ge 45, 3) := by decide +kernel
theorem dX8_isAnyBranch_12 : decode cX8_isAnyBranch 12 = .ok (.aload_n 0, 1) := by decide +kernel
theorem dX8_isAnyBranch_13 : decode cX8_isAnyBranch 13 = .ok (.iload_n 1, 1) := by decide +kernel
theorem dX8_isAnyBranch_14 : decode cX8_isAnyBranch 14 = .ok (.iload_n 3, 1) := by decide +kernel
theorem dX8_isAnyBranch_15 : decode cX8_isAnyBranch 15 = .ok (.invokevirtual 289, 3) := by decide +kernel
theorem dX8_isAnyBranch_18 : decode cX8_isAnyBranch 18 = .ok (.istore 4, 2) := by decide +kernel
theorem dX8_isAnyBranch_20 : decode cX8_isAnyBranch 20 = .ok (.aload_n 0, 1) := by decide +kernel
theorem dX8_isAnyBranch_21 : decode cX8_isAnyBranch 21 = .ok (.iload_n 2, 1) := by decide +kernel
theorem dX8_isAnyBranch_22 : decode cX8_isAnyBranch 22 = .ok (.aload_n 0, 1) := by decide +kernel
theorem dX8_isAnyBranch_23 : decode cX8_isAnyBranch 23 = .ok (.getfield 73, 3) := by decide +kernel
theorem dX8_isAnyBranch_26 : decode cX8_isAnyBranch 26 = .ok (.iload 4, 2) := by decide +kernel
theorem dX8_isAnyBranch_28 : decode cX8_isAnyBranch 28 = .ok (.iconst 1, 1) := by decide +kernel
theorem dX8_isAnyBranch_29 : decode cX8_isAnyBranch 29 = .ok (.iadd, 1) := by decide +kernel
theorem dX8_isAnyBranch_30 : decode cX8_isAnyBranch 30 = .ok (.iaload, 1) := by decide +kernel
theorem dX8_isAnyBranch_31 : decode cX8_isAnyBranch 31 = .ok (.aload_n 0, 1) := by decide +kernel
theorem dX8_isAnyBranch_32 : decode cX8_isAnyBranch 32 = .ok (.getfield 73, 3) := by decide +kernel
theorem dX8_isAnyBranch_35 : decode cX8_isAnyBranch 35 = .ok (.iload 4, 2) := by decide +kernel
theorem dX8_isAnyBranch_37 : decode cX8_isAnyBranch 37 = .ok (.iconst 2, 1) := by decide +kernel
theorem dX8_isAnyBranch_38 : decode cX8_isAnyBranch 38 = .ok (.iadd, 1) := by decide +kernel
theorem dX8_isAnyBranch_39 : decode cX8_isAnyBranch 39 = .ok (.iaload, 1) := by decide +kernel
theorem dX8_isAnyBranch_40 : decode cX8_isAnyBranch 40 = .ok (.invokevirtual 298, 3) := by decide +kernel
theorem dX8_isAnyBranch_43 : decode cX8_isAnyBranch 43 = .ok (.ifCond .eq 5, 3) := by decide +kernel
theorem dX8_isAnyBranch_46 : decode cX8_isAnyBranch 46 = .ok (.iconst 1, 1) := by decide +kernel
theorem dX8_isAnyBranch_47 : decode cX8_isAnyBranch 47 = .ok (.ireturn, 1) := by decide +kernel
theorem dX8_isAnyBranch_48 : decode cX8_isAnyBranch 48 = .ok (.iinc 3 1, 3) := by decide +kernel
theorem dX8_isAnyBranch_51 : decode cX8_isAnyBranch 51 = .ok (.goto (-49), 3) := by decide +kernel
theorem dX8_isAnyBranch_54 : decode cX8_isAnyBranch 54 = .ok (.iconst 0, 1) := by decide +kernel
theorem dX8_isAnyBranch_55 : decode cX8_isAnyBranch 55 = .ok (.ireturn, 1) := by decide +kernel
theorem dX8_latestTaken_0 : decode cX8_latestTaken 0 = .ok (.iconst 0, 1) := by decide +kernel
theorem dX8_latestTaken_1 : decode cX8_latestTaken 1 = .ok (.istore_n 2, 1) := by decide +kernel
theorem dX8_latestTaken_2 : decode cX8_latestTaken 2 = .ok (.iconst 0, 1) := by decide +kernel
theorem dX8_latestTaken_3 : decode cX8_latestTaken 3 = .ok (.istore_n 3, 1) := by decide +kernel
theorem dX8_latestTaken_4 : decode cX8_latestTaken 4 = .ok (.iload_n 3, 1) := by decide +kernel
theorem dX8_latestTaken_5 : decode cX8_latestTaken 5 = .ok (.aload_n 0, 1) := by decide +kernel
theorem dX8_latestTaken_6 : decode cX8_latestTaken 6 = .ok (.getfield 73, 3) := by decide +kernel
theorem dX8_latestTaken_9 : decode cX8_latestTaken 9 = .ok (.iconst 0, 1) := by decide +kernel
theorem dX8_latestTaken_10 : decode cX8_latestTaken 10 = .ok (.iaload, 1) := by decide +kernel
theorem dX8_latestTaken_11 : decode cX8_latestTaken 11 = .ok (.if_icmp .ge 40, 3) := by decide +kernel
theorem dX8_latestTaken_14 : decode cX8_latestTaken 14 = .ok (.aload_n 0, 1) := by decide +kernel
theorem dX8_latestTaken_15 : decode cX8_latestTaken 15 = .ok (.getfield 73, 3) := by decide +kernel
theorem dX8_latestTaken_18 : decode cX8_latestTaken 18 = .ok (.aload_n 0, 1) := by decide +kernel
theorem dX8_latestTaken_19 : decode cX8_latestTaken 19 = .ok (.iload_n 1, 1) := by decide +kernel
theorem dX8_latestTaken_20 : decode cX8_latestTaken 20 = .ok (.iload_n 3, 1) := by decide +kernel
theorem dX8_latestTaken_21 : decode cX8_latestTaken 21 = .ok (.invokevirtual 289, 3) := by decide +kernel
theorem dX8_latestTaken_24 : decode cX8_latestTaken 24 = .ok (.iconst 2, 1) := by decide +kernel
theorem dX8_latestTaken_25 : decode cX8_latestTaken 25 = .ok (.iadd, 1) := by decide +kernel
theorem dX8_latestTaken_26 : decode cX8_latestTaken 26 = .ok (.iaload, 1) := by decide +kernel
theorem dX8_latestTaken_27 : decode cX8_latestTaken 27 = .ok (.iload_n 2, 1) := by decide +kernel
theorem dX8_latestTaken_28 : decode cX8_latestTaken 28 = .ok (.if_icmp .le 17, 3) := by decide +kernel
theorem dX8_latestTaken_31 : decode cX8_latestTaken 31 = .ok (.aload_n 0, 1) := by decide +kernel
theorem dX8_latestTaken_32 : decode cX8_latestTaken 32 = .ok (.getfield 73, 3) := by decide +kernel
theorem dX8_latestTaken_35 : decode cX8_latestTaken 35 = .ok (.aload_n 0, 1) := by decide +kernel
theorem dX8_latestTaken_36 : decode cX8_latestTaken 36 = .ok (.iload_n 1, 1) := by decide +kernel
theorem dX8_latestTaken_37 : decode cX8_latestTaken 37 = .ok (.iload_n 3, 1) := by decide +kernel
theorem dX8_latestTaken_38 : decode cX8_latestTaken 38 = .ok (.invokevirtual 289, 3) := by decide +kernel
theorem dX8_latestTaken_41 : decode cX8_latestTaken 41 = .ok (.iconst 2, 1) := by decide +kernel
theorem dX8_latestTaken_42 : decode cX8_latestTaken 42 = .ok (.iadd, 1) := by decide +kernel
theorem dX8_latestTaken_43 : decode cX8_latestTaken 43 = .ok (.iaload, 1) := by decide +kernel
theorem dX8_latestTaken_44 : decode cX8_latestTaken 44 = .ok (.istore_n 2, 1) := by decide +kernel
theorem dX8_latestTaken_45 : decode cX8_latestTaken 45 = .ok (.iinc 3 1, 3) := by decide +kernel
theorem dX8_latestTaken_48 : decode cX8_latestTaken 48 = .ok (.goto (-44), 3) := by decide +kernel
theorem dX8_latestTaken_51 : decode cX8_latestTaken 51 = .ok (.iload_n 2, 1) := by decide +kernel
theorem dX8_latestTaken_52 : decode cX8_latestTaken 52 = .ok (.ireturn, 1) := by decide +kernel
theorem dX8_firstChange_0 : decode cX8_firstChange 0 = .ok (.iconst 1, 1) := by decide +kernel
theorem dX8_firstChange_1 : decode cX8_firstChange 1 = .ok (.istore 4, 2) := by decide +kernel
theorem dX8_firstChange_3 : decode cX8_firstChange 3 = .ok (.iload 4, 2) := by decide +kernel
theorem dX8_firstChange_5 : decode cX8_firstChange 5 = .ok (.iload_n 3, 1) := by decide +kernel
theorem dX8_firstChange_6 : decode cX8_firstChange 6 = .ok (.if_icmp .gt 45, 3) := by decide +kernel
theorem dX8_firstChange_9 : decode cX8_firstChange 9 = .ok (.aload_n 0, 1) := by decide +kernel
theorem dX8_firstChange_10 : decode cX8_firstChange 10 = .ok (.iload_n 2, 1) := by decide +kernel
theorem dX8_firstChange_11 : decode cX8_firstChange 11 = .ok (.iload 4, 2) := by decide +kernel
theorem dX8_firstChange_13 : decode cX8_firstChange 13 = .ok (.invokevirtual 283, 3) := by decide +kernel
theorem dX8_firstChange_16 : decode cX8_firstChange 16 = .ok (.istore 5, 2) := by decide +kernel
theorem dX8_firstChange_18 : decode cX8_firstChange 18 = .ok (.iload 5, 2) := by decide +kernel
theorem dX8_firstChange_20 : decode cX8_firstChange 20 = .ok (.ifCond .lt 25, 3) := by decide +kernel
theorem dX8_firstChange_23 : decode cX8_firstChange 23 = .ok (.iload 4, 2) := by decide +kernel
theorem dX8_firstChange_25 : decode cX8_firstChange 25 = .ok (.aload_n 0, 1) := by decide +kernel
theorem dX8_firstChange_26 : decode cX8_firstChange 26 = .ok (.getfield 73, 3) := by decide +kernel
theorem dX8_firstChange_29 : decode cX8_firstChange 29 = .ok (.aload_n 0, 1) := by decide +kernel
theorem dX8_firstChange_30 : decode cX8_firstChange 30 = .ok (.iload_n 1, 1) := by decide +kernel
theorem dX8_firstChange_31 : decode cX8_firstChange 31 = .ok (.iload 5, 2) := by decide +kernel
theorem dX8_firstChange_33 : decode cX8_firstChange 33 = .ok (.invokevirtual 289, 3) := by decide +kernel
theorem dX8_firstChange_36 : decode cX8_firstChange 36 = .ok (.iconst 2, 1) := by decide +kernel
theorem dX8_firstChange_37 : decode cX8_firstChange 37 = .ok (.iadd, 1) := by decide +kernel
theorem dX8_firstChange_38 : decode cX8_firstChange 38 = .ok (.iaload, 1) := by decide +kernel
theorem dX8_firstChange_39 : decode cX8_firstChange 39 = .ok (.if_icmp .le 6, 3) := by decide +kernel
theorem dX8_firstChange_42 : decode cX8_firstChange 42 = .ok (.iload 4, 2) := by decide +kernel
theorem dX8_firstChange_44 : decode cX8_firstChange 44 = .ok (.ireturn, 1) := by decide +kernel
theorem dX8_firstChange_45 : decode cX8_firstChange 45 = .ok (.iinc 4 1, 3) := by decide +kernel
theorem dX8_firstChange_48 : decode cX8_firstChange 48 = .ok (.goto (-45), 3) := by decide +kernel
theorem dX8_firstChange_51 : decode cX8_firstChange 51 = .ok (.iconst (-1), 1) := by decide +kernel
theorem dX8_firstChange_52 : decode cX8_firstChange 52 = .ok (.ireturn, 1) := by decide +kernel
theorem dX8_comesOut__0 : decode cX8_comesOut_ 0 = .ok (.aload_n 0, 1) := by decide +kernel
theorem dX8_comesOut__1 : decode cX8_comesOut_ 1 = .ok (.iload_n 1, 1) := by decide +kernel
theorem dX8_comesOut__2 : decode cX8_comesOut_ 2 = .ok (.invokevirtual 301, 3) := by decide +kernel
theorem dX8_comesOut__5 : decode cX8_comesOut_ 5 = .ok (.ifCond .eq 20, 3) := by decide +kernel
theorem dX8_comesOut__8 : decode cX8_comesOut_ 8 = .ok (.aload_n 0, 1) := by decide +kernel
theorem dX8_comesOut__9 : decode cX8_comesOut_ 9 = .ok (.iload_n 2, 1) := by decide +kernel
theorem dX8_comesOut__10 : decode cX8_comesOut_ 10 = .ok (.iload_n 3, 1) := by decide +kernel
theorem dX8_comesOut__11 : decode cX8_comesOut_ 11 = .ok (.invokevirtual 304, 3) := by decide +kernel
theorem dX8_comesOut__14 : decode cX8_comesOut_ 14 = .ok (.ifCond .eq 11, 3) := by decide +kernel
theorem dX8_comesOut__17 : decode cX8_comesOut_ 17 = .ok (.aload_n 0, 1) := by decide +kernel
theorem dX8_comesOut__18 : decode cX8_comesOut_ 18 = .ok (.iload_n 1, 1) := by decide +kernel
theorem dX8_comesOut__19 : decode cX8_comesOut_ 19 = .ok (.invokevirtual 307, 3) := by decide +kernel
theorem dX8_comesOut__22 : decode cX8_comesOut_ 22 = .ok (.ifCond .ne 5, 3) := by decide +kernel
theorem dX8_comesOut__25 : decode cX8_comesOut_ 25 = .ok (.iconst 1, 1) := by decide +kernel
theorem dX8_comesOut__26 : decode cX8_comesOut_ 26 = .ok (.ireturn, 1) := by decide +kernel
theorem dX8_comesOut__27 : decode cX8_comesOut_ 27 = .ok (.aload_n 0, 1) := by decide +kernel
theorem dX8_comesOut__28 : decode cX8_comesOut_ 28 = .ok (.iload_n 1, 1) := by decide +kernel
theorem dX8_comesOut__29 : decode cX8_comesOut_ 29 = .ok (.iload_n 2, 1) := by decide +kernel
theorem dX8_comesOut__30 : decode cX8_comesOut_ 30 = .ok (.invokevirtual 310, 3) := by decide +kernel
theorem dX8_comesOut__33 : decode cX8_comesOut_ 33 = .ok (.ifCond .eq 5, 3) := by decide +kernel
theorem dX8_comesOut__36 : decode cX8_comesOut_ 36 = .ok (.iconst 2, 1) := by decide +kernel
theorem dX8_comesOut__37 : decode cX8_comesOut_ 37 = .ok (.ireturn, 1) := by decide +kernel
theorem dX8_comesOut__38 : decode cX8_comesOut_ 38 = .ok (.aload_n 0, 1) := by decide +kernel
theorem dX8_comesOut__39 : decode cX8_comesOut_ 39 = .ok (.iload_n 1, 1) := by decide +kernel
theorem dX8_comesOut__40 : decode cX8_comesOut_ 40 = .ok (.invokevirtual 313, 3) := by decide +kernel
theorem dX8_comesOut__43 : decode cX8_comesOut_ 43 = .ok (.iload_n 3, 1) := by decide +kernel
theorem dX8_comesOut__44 : decode cX8_comesOut_ 44 = .ok (.if_icmp .le 5, 3) := by decide +kernel
theorem dX8_comesOut__47 : decode cX8_comesOut_ 47 = .ok (.iconst 3, 1) := by decide +kernel
theorem dX8_comesOut__48 : decode cX8_comesOut_ 48 = .ok (.ireturn, 1) := by decide +kernel
theorem dX8_comesOut__49 : decode cX8_comesOut_ 49 = .ok (.aload_n 0, 1) := by decide +kernel
theorem dX8_comesOut__50 : decode cX8_comesOut_ 50 = .ok (.aload_n 0, 1) := by decide +kernel
theorem dX8_comesOut__51 : decode cX8_comesOut_ 51 = .ok (.iload_n 1, 1) := by decide +kernel
theorem dX8_comesOut__52 : decode cX8_comesOut_ 52 = .ok (.iload_n 2, 1) := by decide +kernel
theorem dX8_comesOut__53 : decode cX8_comesOut_ 53 = .ok (.iload_n 3, 1) := by decide +kernel
theorem dX8_comesOut__54 : decode cX8_comesOut_ 54 = .ok (.invokevirtual 316, 3) := by decide +kernel
theorem dX8_comesOut__57 : decode cX8_comesOut_ 57 = .ok (.putfield 319, 3) := by decide +kernel
theorem dX8_comesOut__60 : decode cX8_comesOut_ 60 = .ok (.aload_n 0, 1) := by decide +kernel
theorem dX8_comesOut__61 : decode cX8_comesOut_ 61 = .ok (.getfield 319, 3) := by decide +kernel
theorem dX8_comesOut__64 : decode cX8_comesOut_ 64 = .ok (.ifCond .ge 5, 3) := by decide +kernel
theorem dX8_comesOut__67 : decode cX8_comesOut_ 67 = .ok (.iconst 0, 1) := by decide +kernel
theorem dX8_comesOut__68 : decode cX8_comesOut_ 68 = .ok (.ireturn, 1) := by decide +kernel
theorem dX8_comesOut__69 : decode cX8_comesOut_ 69 = .ok (.aload_n 0, 1) := by decide +kernel
theorem dX8_comesOut__70 : decode cX8_comesOut_ 70 = .ok (.aload_n 0, 1) := by decide +kernel
theorem dX8_comesOut__71 : decode cX8_comesOut_ 71 = .ok (.getfield 319, 3) := by decide +kernel
theorem dX8_comesOut__74 : decode cX8_comesOut_ 74 = .ok (.invokevirtual 277, 3) := by decide +kernel
theorem dX8_comesOut__77 : decode cX8_comesOut_ 77 = .ok (.istore 4, 2) := by decide +kernel
theorem dX8_comesOut__79 : decode cX8_comesOut_ 79 = .ok (.iload 4, 2) := by decide +kernel
theorem dX8_comesOut__81 : decode cX8_comesOut_ 81 = .ok (.aload_n 0, 1) := by decide +kernel
theorem dX8_comesOut__82 : decode cX8_comesOut_ 82 = .ok (.iload_n 3, 1) := by decide +kernel
theorem dX8_comesOut__83 : decode cX8_comesOut_ 83 = .ok (.invokevirtual 277, 3) := by decide +kernel
theorem dX8_comesOut__86 : decode cX8_comesOut_ 86 = .ok (.if_icmp .gt 57, 3) := by decide +kernel
theorem dX8_comesOut__89 : decode cX8_comesOut_ 89 = .ok (.aload_n 0, 1) := by decide +kernel
theorem dX8_comesOut__90 : decode cX8_comesOut_ 90 = .ok (.aload_n 0, 1) := by decide +kernel
theorem dX8_comesOut__91 : decode cX8_comesOut_ 91 = .ok (.iload_n 2, 1) := by decide +kernel
theorem dX8_comesOut__92 : decode cX8_comesOut_ 92 = .ok (.iload 4, 2) := by decide +kernel
theorem dX8_comesOut__94 : decode cX8_comesOut_ 94 = .ok (.invokevirtual 322, 3) := by decide +kernel
theorem dX8_comesOut__97 : decode cX8_comesOut_ 97 = .ok (.putfield 325, 3) := by decide +kernel
theorem dX8_comesOut__100 : decode cX8_comesOut_ 100 = .ok (.aload_n 0, 1) := by decide +kernel
theorem dX8_comesOut__101 : decode cX8_comesOut_ 101 = .ok (.iload 4, 2) := by decide +kernel
theorem dX8_comesOut__103 : decode cX8_comesOut_ 103 = .ok (.putfield 328, 3) := by decide +kernel
theorem dX8_comesOut__106 : decode cX8_comesOut_ 106 = .ok (.aload_n 0, 1) := by decide +kernel
theorem dX8_comesOut__107 : decode cX8_comesOut_ 107 = .ok (.aload_n 0, 1) := by decide +kernel
theorem dX8_comesOut__108 : decode cX8_comesOut_ 108 = .ok (.getfield 325, 3) := by decide +kernel
theorem dX8_comesOut__111 : decode cX8_comesOut_ 111 = .ok (.iload 4, 2) := by decide +kernel
theorem dX8_comesOut__113 : decode cX8_comesOut_ 113 = .ok (.invokevirtual 331, 3) := by decide +kernel
theorem dX8_comesOut__116 : decode cX8_comesOut_ 116 = .ok (.ifCond .ne 5, 3) := by decide +kernel
theorem dX8_comesOut__119 : decode cX8_comesOut_ 119 = .ok (.iconst 4, 1) := by decide +kernel
theorem dX8_comesOut__120 : decode cX8_comesOut_ 120 = .ok (.ireturn, 1) := by decide +kernel
theorem dX8_comesOut__121 : decode cX8_comesOut_ 121 = .ok (.aload_n 0, 1) := by decide +kernel
theorem dX8_comesOut__122 : decode cX8_comesOut_ 122 = .ok (.aload_n 0, 1) := by decide +kernel
theorem dX8_comesOut__123 : decode cX8_comesOut_ 123 = .ok (.getfield 325, 3) := by decide +kernel
theorem dX8_comesOut__126 : decode cX8_comesOut_ 126 = .ok (.iload 4, 2) := by decide +kernel
theorem dX8_comesOut__128 : decode cX8_comesOut_ 128 = .ok (.invokevirtual 295, 3) := by decide +kernel
theorem dX8_comesOut__131 : decode cX8_comesOut_ 131 = .ok (.iconst 3, 1) := by decide +kernel
theorem dX8_comesOut__132 : decode cX8_comesOut_ 132 = .ok (.if_icmp .ne 5, 3) := by decide +kernel
theorem dX8_comesOut__135 : decode cX8_comesOut_ 135 = .ok (.iconst 5, 1) := by decide +kernel
theorem dX8_comesOut__136 : decode cX8_comesOut_ 136 = .ok (.ireturn, 1) := by decide +kernel
theorem dX8_comesOut__137 : decode cX8_comesOut_ 137 = .ok (.iinc 4 1, 3) := by decide +kernel
theorem dX8_comesOut__140 : decode cX8_comesOut_ 140 = .ok (.goto (-61), 3) := by decide +kernel
theorem dX8_comesOut__143 : decode cX8_comesOut_ 143 = .ok (.iconst 0, 1) := by decide +kernel
theorem dX8_comesOut__144 : decode cX8_comesOut_ 144 = .ok (.ireturn, 1) := by decide +kernel
theorem dX8_write_0 : decode cX8_write 0 = .ok (.aload_n 0, 1) := by decide +kernel
theorem dX8_write_1 : decode cX8_write 1 = .ok (.iload_n 1, 1) := by decide +kernel
theorem dX8_write_2 : decode cX8_write 2 = .ok (.invokevirtual 334, 3) := by decide +kernel
theorem dX8_write_5 : decode cX8_write 5 = .ok (.ifCond .eq 13, 3) := by decide +kernel
theorem dX8_write_8 : decode cX8_write 8 = .ok (.aload_n 0, 1) := by decide +kernel
theorem dX8_write_9 : decode cX8_write 9 = .ok (.iconst 0, 1) := by decide +kernel
theorem dX8_write_10 : decode cX8_write 10 = .ok (.iload_n 1, 1) := by decide +kernel
theorem dX8_write_11 : decode cX8_write 11 = .ok (.iload_n 2, 1) := by decide +kernel
theorem dX8_write_12 : decode cX8_write 12 = .ok (.invokevirtual 337, 3) := by decide +kernel
theorem dX8_write_15 : decode cX8_write 15 = .ok (.goto 4, 3) := by decide +kernel
theorem dX8_write_18 : decode cX8_write 18 = .ok (.iconst (-1), 1) := by decide +kernel
theorem dX8_write_19 : decode cX8_write 19 = .ok (.ireturn, 1) := by decide +kernel
theorem dX8_add_0 : decode cX8_add 0 = .ok (.aload_n 0, 1) := by decide +kernel
theorem dX8_add_1 : decode cX8_add 1 = .ok (.iload_n 1, 1) := by decide +kernel
theorem dX8_add_2 : decode cX8_add 2 = .ok (.invokevirtual 334, 3) := by decide +kernel
theorem dX8_add_5 : decode cX8_add 5 = .ok (.ifCond .eq 13, 3) := by decide +kernel
theorem dX8_add_8 : decode cX8_add 8 = .ok (.aload_n 0, 1) := by decide +kernel
theorem dX8_add_9 : decode cX8_add 9 = .ok (.iconst 1, 1) := by decide +kernel
theorem dX8_add_10 : decode cX8_add 10 = .ok (.iload_n 1, 1) := by decide +kernel
theorem dX8_add_11 : decode cX8_add 11 = .ok (.iload_n 2, 1) := by decide +kernel
theorem dX8_add_12 : decode cX8_add 12 = .ok (.invokevirtual 337, 3) := by decide +kernel
theorem dX8_add_15 : decode cX8_add 15 = .ok (.goto 4, 3) := by decide +kernel
theorem dX8_add_18 : decode cX8_add 18 = .ok (.iconst (-1), 1) := by decide +kernel
theorem dX8_add_19 : decode cX8_add 19 = .ok (.ireturn, 1) := by decide +kernel
theorem dX8_mark_0 : decode cX8_mark 0 = .ok (.aload_n 0, 1) := by decide +kernel
theorem dX8_mark_1 : decode cX8_mark 1 = .ok (.iconst 2, 1) := by decide +kernel
theorem dX8_mark_2 : decode cX8_mark 2 = .ok (.iload_n 1, 1) := by decide +kernel
theorem dX8_mark_3 : decode cX8_mark 3 = .ok (.iconst 0, 1) := by decide +kernel
theorem dX8_mark_4 : decode cX8_mark 4 = .ok (.invokevirtual 337, 3) := by decide +kernel
theorem dX8_mark_7 : decode cX8_mark 7 = .ok (.ireturn, 1) := by decide +kernel
theorem dX8_fill_0 : decode cX8_fill 0 = .ok (.aload_n 0, 1) := by decide +kernel
theorem dX8_fill_1 : decode cX8_fill 1 = .ok (.aload_n 0, 1) := by decide +kernel
theorem dX8_fill_2 : decode cX8_fill 2 = .ok (.getfield 73, 3) := by decide +kernel
theorem dX8_fill_5 : decode cX8_fill 5 = .ok (.iconst 3, 1) := by decide +kernel
theorem dX8_fill_6 : decode cX8_fill 6 = .ok (.iaload, 1) := by decide +kernel
theorem dX8_fill_7 : decode cX8_fill 7 = .ok (.invokevirtual 217, 3) := by decide +kernel
theorem dX8_fill_10 : decode cX8_fill 10 = .ok (.aload_n 0, 1) := by decide +kernel
theorem dX8_fill_11 : decode cX8_fill 11 = .ok (.getfield 73, 3) := by decide +kernel
theorem dX8_fill_14 : decode cX8_fill 14 = .ok (.iconst 1, 1) := by decide +kernel
theorem dX8_fill_15 : decode cX8_fill 15 = .ok (.iaload, 1) := by decide +kernel
theorem dX8_fill_16 : decode cX8_fill 16 = .ok (.irem, 1) := by decide +kernel
theorem dX8_fill_17 : decode cX8_fill 17 = .ok (.istore_n 1, 1) := by decide +kernel
theorem dX8_fill_18 : decode cX8_fill 18 = .ok (.iload_n 1, 1) := by decide +kernel
theorem dX8_fill_19 : decode cX8_fill 19 = .ok (.ifCond .ne 7, 3) := by decide +kernel
theorem dX8_fill_22 : decode cX8_fill 22 = .ok (.iconst 0, 1) := by decide +kernel
theorem dX8_fill_23 : decode cX8_fill 23 = .ok (.goto 11, 3) := by decide +kernel
theorem dX8_fill_26 : decode cX8_fill 26 = .ok (.aload_n 0, 1) := by decide +kernel
theorem dX8_fill_27 : decode cX8_fill 27 = .ok (.getfield 73, 3) := by decide +kernel
theorem dX8_fill_30 : decode cX8_fill 30 = .ok (.iconst 1, 1) := by decide +kernel
theorem dX8_fill_31 : decode cX8_fill 31 = .ok (.iaload, 1) := by decide +kernel
theorem dX8_fill_32 : decode cX8_fill 32 = .ok (.iload_n 1, 1) := by decide +kernel
theorem dX8_fill_33 : decode cX8_fill 33 = .ok (.isub, 1) := by decide +kernel
theorem dX8_fill_34 : decode cX8_fill 34 = .ok (.istore_n 2, 1) := by decide +kernel
theorem dX8_fill_35 : decode cX8_fill 35 = .ok (.aload_n 0, 1) := by decide +kernel
theorem dX8_fill_36 : decode cX8_fill 36 = .ok (.iload_n 2, 1) := by decide +kernel
theorem dX8_fill_37 : decode cX8_fill 37 = .ok (.invokevirtual 274, 3) := by decide +kernel
theorem dX8_fill_40 : decode cX8_fill 40 = .ok (.ifCond .ne 5, 3) := by decide +kernel
theorem dX8_fill_43 : decode cX8_fill 43 = .ok (.iconst (-1), 1) := by decide +kernel
theorem dX8_fill_44 : decode cX8_fill 44 = .ok (.ireturn, 1) := by decide +kernel
theorem dX8_fill_45 : decode cX8_fill 45 = .ok (.iconst 0, 1) := by decide +kernel
theorem dX8_fill_46 : decode cX8_fill 46 = .ok (.istore_n 3, 1) := by decide +kernel
theorem dX8_fill_47 : decode cX8_fill 47 = .ok (.iload_n 3, 1) := by decide +kernel
theorem dX8_fill_48 : decode cX8_fill 48 = .ok (.iload_n 2, 1) := by decide +kernel
theorem dX8_fill_49 : decode cX8_fill 49 = .ok (.if_icmp .ge 18, 3) := by decide +kernel
theorem dX8_fill_52 : decode cX8_fill 52 = .ok (.aload_n 0, 1) := by decide +kernel
theorem dX8_fill_53 : decode cX8_fill 53 = .ok (.iconst 3, 1) := by decide +kernel
theorem dX8_fill_54 : decode cX8_fill 54 = .ok (.bipush (-2), 2) := by decide +kernel
theorem dX8_fill_56 : decode cX8_fill 56 = .ok (.iconst 0, 1) := by decide +kernel
theorem dX8_fill_57 : decode cX8_fill 57 = .ok (.invokevirtual 337, 3) := by decide +kernel
theorem dX8_fill_60 : decode cX8_fill 60 = .ok (.pop, 1) := by decide +kernel
theorem dX8_fill_61 : decode cX8_fill 61 = .ok (.iinc 3 1, 3) := by decide +kernel
theorem dX8_fill_64 : decode cX8_fill 64 = .ok (.goto (-17), 3) := by decide +kernel
theorem dX8_fill_67 : decode cX8_fill 67 = .ok (.iload_n 2, 1) := by decide +kernel
theorem dX8_fill_68 : decode cX8_fill 68 = .ok (.ireturn, 1) := by decide +kernel
theorem dX8_copy_0 : decode cX8_copy 0 = .ok (.aload_n 0, 1) := by decide +kernel
theorem dX8_copy_1 : decode cX8_copy 1 = .ok (.getfield 73, 3) := by decide +kernel
theorem dX8_copy_4 : decode cX8_copy 4 = .ok (.iconst 5, 1) := by decide +kernel
theorem dX8_copy_5 : decode cX8_copy 5 = .ok (.iaload, 1) := by decide +kernel
theorem dX8_copy_6 : decode cX8_copy 6 = .ok (.bipush 10, 2) := by decide +kernel
theorem dX8_copy_8 : decode cX8_copy 8 = .ok (.if_icmp .eq 16, 3) := by decide +kernel
theorem dX8_copy_11 : decode cX8_copy 11 = .ok (.iload_n 1, 1) := by decide +kernel
theorem dX8_copy_12 : decode cX8_copy 12 = .ok (.iconst (-1), 1) := by decide +kernel
theorem dX8_copy_13 : decode cX8_copy 13 = .ok (.if_icmp .eq 13, 3) := by decide +kernel
theorem dX8_copy_16 : decode cX8_copy 16 = .ok (.aload_n 0, 1) := by decide +kernel
theorem dX8_copy_17 : decode cX8_copy 17 = .ok (.iload_n 1, 1) := by decide +kernel
theorem dX8_copy_18 : decode cX8_copy 18 = .ok (.invokevirtual 301, 3) := by decide +kernel
theorem dX8_copy_21 : decode cX8_copy 21 = .ok (.ifCond .ne 5, 3) := by decide +kernel
theorem dX8_copy_24 : decode cX8_copy 24 = .ok (.iconst (-1), 1) := by decide +kernel
theorem dX8_copy_25 : decode cX8_copy 25 = .ok (.ireturn, 1) := by decide +kernel
theorem dX8_copy_26 : decode cX8_copy 26 = .ok (.aload_n 0, 1) := by decide +kernel
theorem dX8_copy_27 : decode cX8_copy 27 = .ok (.aload_n 0, 1) := by decide +kernel
theorem dX8_copy_28 : decode cX8_copy 28 = .ok (.getfield 73, 3) := by decide +kernel
theorem dX8_copy_31 : decode cX8_copy 31 = .ok (.iconst 3, 1) := by decide +kernel
theorem dX8_copy_32 : decode cX8_copy 32 = .ok (.iaload, 1) := by decide +kernel
theorem dX8_copy_33 : decode cX8_copy 33 = .ok (.iload_n 1, 1) := by decide +kernel
theorem dX8_copy_34 : decode cX8_copy 34 = .ok (.iconst (-1), 1) := by decide +kernel
theorem dX8_copy_35 : decode cX8_copy 35 = .ok (.if_icmp .ne 8, 3) := by decide +kernel
theorem dX8_copy_38 : decode cX8_copy 38 = .ok (.bipush (-2), 2) := by decide +kernel
theorem dX8_copy_40 : decode cX8_copy 40 = .ok (.goto 4, 3) := by decide +kernel
theorem dX8_copy_43 : decode cX8_copy 43 = .ok (.iload_n 1, 1) := by decide +kernel
theorem dX8_copy_44 : decode cX8_copy 44 = .ok (.iconst 1, 1) := by decide +kernel
theorem dX8_copy_45 : decode cX8_copy 45 = .ok (.invokevirtual 340, 3) := by decide +kernel
theorem dX8_copy_48 : decode cX8_copy 48 = .ok (.ireturn, 1) := by decide +kernel
theorem dX8_take_0 : decode cX8_take 0 = .ok (.aload_n 0, 1) := by decide +kernel
theorem dX8_take_1 : decode cX8_take 1 = .ok (.iload_n 1, 1) := by decide +kernel
theorem dX8_take_2 : decode cX8_take 2 = .ok (.invokevirtual 301, 3) := by decide +kernel
theorem dX8_take_5 : decode cX8_take 5 = .ok (.ifCond .eq 35, 3) := by decide +kernel
theorem dX8_take_8 : decode cX8_take 8 = .ok (.aload_n 0, 1) := by decide +kernel
theorem dX8_take_9 : decode cX8_take 9 = .ok (.iload_n 2, 1) := by decide +kernel
theorem dX8_take_10 : decode cX8_take 10 = .ok (.invokevirtual 334, 3) := by decide +kernel
theorem dX8_take_13 : decode cX8_take 13 = .ok (.ifCond .eq 27, 3) := by decide +kernel
theorem dX8_take_16 : decode cX8_take 16 = .ok (.aload_n 0, 1) := by decide +kernel
theorem dX8_take_17 : decode cX8_take 17 = .ok (.iload_n 1, 1) := by decide +kernel
theorem dX8_take_18 : decode cX8_take 18 = .ok (.iconst 2, 1) := by decide +kernel
theorem dX8_take_19 : decode cX8_take 19 = .ok (.invokevirtual 286, 3) := by decide +kernel
theorem dX8_take_22 : decode cX8_take 22 = .ok (.ifCond .eq 18, 3) := by decide +kernel
theorem dX8_take_25 : decode cX8_take 25 = .ok (.aload_n 0, 1) := by decide +kernel
theorem dX8_take_26 : decode cX8_take 26 = .ok (.iload_n 1, 1) := by decide +kernel
theorem dX8_take_27 : decode cX8_take 27 = .ok (.iconst 0, 1) := by decide +kernel
theorem dX8_take_28 : decode cX8_take 28 = .ok (.invokevirtual 286, 3) := by decide +kernel
theorem dX8_take_31 : decode cX8_take 31 = .ok (.aload_n 0, 1) := by decide +kernel
theorem dX8_take_32 : decode cX8_take 32 = .ok (.getfield 73, 3) := by decide +kernel
theorem dX8_take_35 : decode cX8_take 35 = .ok (.iconst 3, 1) := by decide +kernel
theorem dX8_take_36 : decode cX8_take 36 = .ok (.iaload, 1) := by decide +kernel
theorem dX8_take_37 : decode cX8_take 37 = .ok (.if_icmp .eq 5, 3) := by decide +kernel
theorem dX8_take_40 : decode cX8_take 40 = .ok (.iconst 0, 1) := by decide +kernel
theorem dX8_take_41 : decode cX8_take 41 = .ok (.ireturn, 1) := by decide +kernel
theorem dX8_take_42 : decode cX8_take 42 = .ok (.aload_n 0, 1) := by decide +kernel
theorem dX8_take_43 : decode cX8_take 43 = .ok (.aload_n 0, 1) := by decide +kernel
theorem dX8_take_44 : decode cX8_take 44 = .ok (.getfield 73, 3) := by decide +kernel
theorem dX8_take_47 : decode cX8_take 47 = .ok (.iconst 3, 1) := by decide +kernel
theorem dX8_take_48 : decode cX8_take 48 = .ok (.iaload, 1) := by decide +kernel
theorem dX8_take_49 : decode cX8_take 49 = .ok (.invokevirtual 217, 3) := by decide +kernel
theorem dX8_take_52 : decode cX8_take 52 = .ok (.istore_n 3, 1) := by decide +kernel
theorem dX8_take_53 : decode cX8_take 53 = .ok (.aload_n 0, 1) := by decide +kernel
theorem dX8_take_54 : decode cX8_take 54 = .ok (.iload_n 1, 1) := by decide +kernel
theorem dX8_take_55 : decode cX8_take 55 = .ok (.iload_n 2, 1) := by decide +kernel
theorem dX8_take_56 : decode cX8_take 56 = .ok (.aload_n 0, 1) := by decide +kernel
theorem dX8_take_57 : decode cX8_take 57 = .ok (.getfield 73, 3) := by decide +kernel
theorem dX8_take_60 : decode cX8_take 60 = .ok (.iconst 3, 1) := by decide +kernel
theorem dX8_take_61 : decode cX8_take 61 = .ok (.iaload, 1) := by decide +kernel
theorem dX8_take_62 : decode cX8_take 62 = .ok (.iload_n 3, 1) := by decide +kernel
theorem dX8_take_63 : decode cX8_take 63 = .ok (.aload_n 0, 1) := by decide +kernel
theorem dX8_take_64 : decode cX8_take 64 = .ok (.iload_n 2, 1) := by decide +kernel
theorem dX8_take_65 : decode cX8_take 65 = .ok (.aload_n 0, 1) := by decide +kernel
theorem dX8_take_66 : decode cX8_take 66 = .ok (.getfield 73, 3) := by decide +kernel
theorem dX8_take_69 : decode cX8_take 69 = .ok (.iconst 3, 1) := by decide +kernel
theorem dX8_take_70 : decode cX8_take 70 = .ok (.iaload, 1) := by decide +kernel
theorem dX8_take_71 : decode cX8_take 71 = .ok (.iload_n 3, 1) := by decide +kernel
theorem dX8_take_72 : decode cX8_take 72 = .ok (.invokevirtual 343, 3) := by decide +kernel
theorem dX8_take_75 : decode cX8_take 75 = .ok (.invokevirtual 346, 3) := by decide +kernel
theorem dX8_take_78 : decode cX8_take 78 = .ok (.iconst 1, 1) := by decide +kernel
theorem dX8_take_79 : decode cX8_take 79 = .ok (.ireturn, 1) := by decide +kernel
theorem dX8_close_0 : decode cX8_close 0 = .ok (.aload_n 0, 1) := by decide +kernel
theorem dX8_close_1 : decode cX8_close 1 = .ok (.iload_n 1, 1) := by decide +kernel
theorem dX8_close_2 : decode cX8_close 2 = .ok (.invokevirtual 301, 3) := by decide +kernel
theorem dX8_close_5 : decode cX8_close 5 = .ok (.ifCond .eq 12, 3) := by decide +kernel
theorem dX8_close_8 : decode cX8_close 8 = .ok (.aload_n 0, 1) := by decide +kernel
theorem dX8_close_9 : decode cX8_close 9 = .ok (.iload_n 1, 1) := by decide +kernel
theorem dX8_close_10 : decode cX8_close 10 = .ok (.iconst 2, 1) := by decide +kernel
theorem dX8_close_11 : decode cX8_close 11 = .ok (.invokevirtual 286, 3) := by decide +kernel
theorem dX8_close_14 : decode cX8_close 14 = .ok (.ifCond .ne 5, 3) := by decide +kernel
theorem dX8_close_17 : decode cX8_close 17 = .ok (.iconst 0, 1) := by decide +kernel
theorem dX8_close_18 : decode cX8_close 18 = .ok (.ireturn, 1) := by decide +kernel
theorem dX8_close_19 : decode cX8_close 19 = .ok (.aload_n 0, 1) := by decide +kernel
theorem dX8_close_20 : decode cX8_close 20 = .ok (.getfield 73, 3) := by decide +kernel
theorem dX8_close_23 : decode cX8_close 23 = .ok (.bipush 60, 2) := by decide +kernel
theorem dX8_close_25 : decode cX8_close 25 = .ok (.iconst 4, 1) := by decide +kernel
theorem dX8_close_26 : decode cX8_close 26 = .ok (.iload_n 1, 1) := by decide +kernel
theorem dX8_close_27 : decode cX8_close 27 = .ok (.imul, 1) := by decide +kernel
theorem dX8_close_28 : decode cX8_close 28 = .ok (.iadd, 1) := by decide +kernel
theorem dX8_close_29 : decode cX8_close 29 = .ok (.iconst 2, 1) := by decide +kernel
theorem dX8_close_30 : decode cX8_close 30 = .ok (.iadd, 1) := by decide +kernel
theorem dX8_close_31 : decode cX8_close 31 = .ok (.iconst 0, 1) := by decide +kernel
theorem dX8_close_32 : decode cX8_close 32 = .ok (.iastore, 1) := by decide +kernel
theorem dX8_close_33 : decode cX8_close 33 = .ok (.iconst 1, 1) := by decide +kernel
theorem dX8_close_34 : decode cX8_close 34 = .ok (.ireturn, 1) := by decide +kernel
theorem dX8_combine_0 : decode cX8_combine 0 = .ok (.aload_n 0, 1) := by decide +kernel
theorem dX8_combine_1 : decode cX8_combine 1 = .ok (.iload_n 1, 1) := by decide +kernel
theorem dX8_combine_2 : decode cX8_combine 2 = .ok (.invokevirtual 301, 3) := by decide +kernel
theorem dX8_combine_5 : decode cX8_combine 5 = .ok (.ifCond .eq 22, 3) := by decide +kernel
theorem dX8_combine_8 : decode cX8_combine 8 = .ok (.aload_n 0, 1) := by decide +kernel
theorem dX8_combine_9 : decode cX8_combine 9 = .ok (.iload_n 1, 1) := by decide +kernel
theorem dX8_combine_10 : decode cX8_combine 10 = .ok (.invokevirtual 307, 3) := by decide +kernel
theorem dX8_combine_13 : decode cX8_combine 13 = .ok (.ifCond .eq 14, 3) := by decide +kernel
theorem dX8_combine_16 : decode cX8_combine 16 = .ok (.aload_n 0, 1) := by decide +kernel
theorem dX8_combine_17 : decode cX8_combine 17 = .ok (.getfield 73, 3) := by decide +kernel
theorem dX8_combine_20 : decode cX8_combine 20 = .ok (.iconst 5, 1) := by decide +kernel
theorem dX8_combine_21 : decode cX8_combine 21 = .ok (.iaload, 1) := by decide +kernel
theorem dX8_combine_22 : decode cX8_combine 22 = .ok (.bipush 10, 2) := by decide +kernel
theorem dX8_combine_24 : decode cX8_combine 24 = .ok (.if_icmp .ne 5, 3) := by decide +kernel
theorem dX8_combine_27 : decode cX8_combine 27 = .ok (.iconst (-1), 1) := by decide +kernel
theorem dX8_combine_28 : decode cX8_combine 28 = .ok (.ireturn, 1) := by decide +kernel
theorem dX8_combine_29 : decode cX8_combine 29 = .ok (.aload_n 0, 1) := by decide +kernel
theorem dX8_combine_30 : decode cX8_combine 30 = .ok (.aload_n 0, 1) := by decide +kernel
theorem dX8_combine_31 : decode cX8_combine 31 = .ok (.iload_n 1, 1) := by decide +kernel
theorem dX8_combine_32 : decode cX8_combine 32 = .ok (.iconst 0, 1) := by decide +kernel
theorem dX8_combine_33 : decode cX8_combine 33 = .ok (.invokevirtual 286, 3) := by decide +kernel
theorem dX8_combine_36 : decode cX8_combine 36 = .ok (.bipush (-2), 2) := by decide +kernel
theorem dX8_combine_38 : decode cX8_combine 38 = .ok (.iconst 0, 1) := by decide +kernel
theorem dX8_combine_39 : decode cX8_combine 39 = .ok (.invokevirtual 340, 3) := by decide +kernel
theorem dX8_combine_42 : decode cX8_combine 42 = .ok (.istore_n 2, 1) := by decide +kernel
theorem dX8_combine_43 : decode cX8_combine 43 = .ok (.iconst 0, 1) := by decide +kernel
theorem dX8_combine_44 : decode cX8_combine 44 = .ok (.istore_n 3, 1) := by decide +kernel
theorem dX8_combine_45 : decode cX8_combine 45 = .ok (.iload_n 3, 1) := by decide +kernel
theorem dX8_combine_46 : decode cX8_combine 46 = .ok (.aload_n 0, 1) := by decide +kernel
theorem dX8_combine_47 : decode cX8_combine 47 = .ok (.getfield 73, 3) := by decide +kernel
theorem dX8_combine_50 : decode cX8_combine 50 = .ok (.iconst 0, 1) := by decide +kernel
theorem dX8_combine_51 : decode cX8_combine 51 = .ok (.iaload, 1) := by decide +kernel
theorem dX8_combine_52 : decode cX8_combine 52 = .ok (.if_icmp .ge 50, 3) := by decide +kernel
theorem dX8_combine_55 : decode cX8_combine 55 = .ok (.aload_n 0, 1) := by decide +kernel
theorem dX8_combine_56 : decode cX8_combine 56 = .ok (.iload_n 1, 1) := by decide +kernel
theorem dX8_combine_57 : decode cX8_combine 57 = .ok (.iload_n 3, 1) := by decide +kernel
theorem dX8_combine_58 : decode cX8_combine 58 = .ok (.invokevirtual 289, 3) := by decide +kernel
theorem dX8_combine_61 : decode cX8_combine 61 = .ok (.istore 4, 2) := by decide +kernel
theorem dX8_combine_63 : decode cX8_combine 63 = .ok (.aload_n 0, 1) := by decide +kernel
theorem dX8_combine_64 : decode cX8_combine 64 = .ok (.iload_n 2, 1) := by decide +kernel
theorem dX8_combine_65 : decode cX8_combine 65 = .ok (.iload_n 3, 1) := by decide +kernel
theorem dX8_combine_66 : decode cX8_combine 66 = .ok (.aload_n 0, 1) := by decide +kernel
theorem dX8_combine_67 : decode cX8_combine 67 = .ok (.getfield 73, 3) := by decide +kernel
theorem dX8_combine_70 : decode cX8_combine 70 = .ok (.iload 4, 2) := by decide +kernel
theorem dX8_combine_72 : decode cX8_combine 72 = .ok (.iconst 1, 1) := by decide +kernel
theorem dX8_combine_73 : decode cX8_combine 73 = .ok (.iadd, 1) := by decide +kernel
theorem dX8_combine_74 : decode cX8_combine 74 = .ok (.iaload, 1) := by decide +kernel
theorem dX8_combine_75 : decode cX8_combine 75 = .ok (.aload_n 0, 1) := by decide +kernel
theorem dX8_combine_76 : decode cX8_combine 76 = .ok (.getfield 73, 3) := by decide +kernel
theorem dX8_combine_79 : decode cX8_combine 79 = .ok (.iload 4, 2) := by decide +kernel
theorem dX8_combine_81 : decode cX8_combine 81 = .ok (.iconst 2, 1) := by decide +kernel
theorem dX8_combine_82 : decode cX8_combine 82 = .ok (.iadd, 1) := by decide +kernel
theorem dX8_combine_83 : decode cX8_combine 83 = .ok (.iaload, 1) := by decide +kernel
theorem dX8_combine_84 : decode cX8_combine 84 = .ok (.aload_n 0, 1) := by decide +kernel
theorem dX8_combine_85 : decode cX8_combine 85 = .ok (.getfield 73, 3) := by decide +kernel
theorem dX8_combine_88 : decode cX8_combine 88 = .ok (.iload 4, 2) := by decide +kernel
theorem dX8_combine_90 : decode cX8_combine 90 = .ok (.iconst 3, 1) := by decide +kernel
theorem dX8_combine_91 : decode cX8_combine 91 = .ok (.iadd, 1) := by decide +kernel
theorem dX8_combine_92 : decode cX8_combine 92 = .ok (.iaload, 1) := by decide +kernel
theorem dX8_combine_93 : decode cX8_combine 93 = .ok (.invokevirtual 346, 3) := by decide +kernel
theorem dX8_combine_96 : decode cX8_combine 96 = .ok (.iinc 3 1, 3) := by decide +kernel
theorem dX8_combine_99 : decode cX8_combine 99 = .ok (.goto (-54), 3) := by decide +kernel
theorem dX8_combine_102 : decode cX8_combine 102 = .ok (.iload_n 2, 1) := by decide +kernel
theorem dX8_combine_103 : decode cX8_combine 103 = .ok (.ireturn, 1) := by decide +kernel
theorem dX8_drop_0 : decode cX8_drop 0 = .ok (.aload_n 0, 1) := by decide +kernel
theorem dX8_drop_1 : decode cX8_drop 1 = .ok (.iload_n 1, 1) := by decide +kernel
theorem dX8_drop_2 : decode cX8_drop 2 = .ok (.invokevirtual 301, 3) := by decide +kernel
theorem dX8_drop_5 : decode cX8_drop 5 = .ok (.ifCond .eq 23, 3) := by decide +kernel
theorem dX8_drop_8 : decode cX8_drop 8 = .ok (.aload_n 0, 1) := by decide +kernel
theorem dX8_drop_9 : decode cX8_drop 9 = .ok (.iload_n 1, 1) := by decide +kernel
theorem dX8_drop_10 : decode cX8_drop 10 = .ok (.iconst 2, 1) := by decide +kernel
theorem dX8_drop_11 : decode cX8_drop 11 = .ok (.invokevirtual 286, 3) := by decide +kernel
theorem dX8_drop_14 : decode cX8_drop 14 = .ok (.iconst 1, 1) := by decide +kernel
theorem dX8_drop_15 : decode cX8_drop 15 = .ok (.if_icmp .eq 13, 3) := by decide +kernel
theorem dX8_drop_18 : decode cX8_drop 18 = .ok (.aload_n 0, 1) := by decide +kernel
theorem dX8_drop_19 : decode cX8_drop 19 = .ok (.iload_n 1, 1) := by decide +kernel
theorem dX8_drop_20 : decode cX8_drop 20 = .ok (.iconst 3, 1) := by decide +kernel
theorem dX8_drop_21 : decode cX8_drop 21 = .ok (.invokevirtual 286, 3) := by decide +kernel
theorem dX8_drop_24 : decode cX8_drop 24 = .ok (.iconst 1, 1) := by decide +kernel
theorem dX8_drop_25 : decode cX8_drop 25 = .ok (.if_icmp .ne 5, 3) := by decide +kernel
theorem dX8_drop_28 : decode cX8_drop 28 = .ok (.iconst 0, 1) := by decide +kernel
theorem dX8_drop_29 : decode cX8_drop 29 = .ok (.ireturn, 1) := by decide +kernel
theorem dX8_drop_30 : decode cX8_drop 30 = .ok (.iconst 0, 1) := by decide +kernel
theorem dX8_drop_31 : decode cX8_drop 31 = .ok (.istore_n 2, 1) := by decide +kernel
theorem dX8_drop_32 : decode cX8_drop 32 = .ok (.iload_n 2, 1) := by decide +kernel
theorem dX8_drop_33 : decode cX8_drop 33 = .ok (.aload_n 0, 1) := by decide +kernel
theorem dX8_drop_34 : decode cX8_drop 34 = .ok (.getfield 73, 3) := by decide +kernel
theorem dX8_drop_37 : decode cX8_drop 37 = .ok (.iconst 5, 1) := by decide +kernel
theorem dX8_drop_38 : decode cX8_drop 38 = .ok (.iaload, 1) := by decide +kernel
theorem dX8_drop_39 : decode cX8_drop 39 = .ok (.if_icmp .ge 30, 3) := by decide +kernel
theorem dX8_drop_42 : decode cX8_drop 42 = .ok (.aload_n 0, 1) := by decide +kernel
theorem dX8_drop_43 : decode cX8_drop 43 = .ok (.iload_n 2, 1) := by decide +kernel
theorem dX8_drop_44 : decode cX8_drop 44 = .ok (.iconst 1, 1) := by decide +kernel
theorem dX8_drop_45 : decode cX8_drop 45 = .ok (.invokevirtual 286, 3) := by decide +kernel
theorem dX8_drop_48 : decode cX8_drop 48 = .ok (.iload_n 1, 1) := by decide +kernel
theorem dX8_drop_49 : decode cX8_drop 49 = .ok (.if_icmp .ne 14, 3) := by decide +kernel
theorem dX8_drop_52 : decode cX8_drop 52 = .ok (.aload_n 0, 1) := by decide +kernel
theorem dX8_drop_53 : decode cX8_drop 53 = .ok (.iload_n 2, 1) := by decide +kernel
theorem dX8_drop_54 : decode cX8_drop 54 = .ok (.iconst 3, 1) := by decide +kernel
theorem dX8_drop_55 : decode cX8_drop 55 = .ok (.invokevirtual 286, 3) := by decide +kernel
theorem dX8_drop_58 : decode cX8_drop 58 = .ok (.ifCond .ne 5, 3) := by decide +kernel
theorem dX8_drop_61 : decode cX8_drop 61 = .ok (.iconst 0, 1) := by decide +kernel
theorem dX8_drop_62 : decode cX8_drop 62 = .ok (.ireturn, 1) := by decide +kernel
theorem dX8_drop_63 : decode cX8_drop 63 = .ok (.iinc 2 1, 3) := by decide +kernel
theorem dX8_drop_66 : decode cX8_drop 66 = .ok (.goto (-34), 3) := by decide +kernel
theorem dX8_drop_69 : decode cX8_drop 69 = .ok (.aload_n 0, 1) := by decide +kernel
theorem dX8_drop_70 : decode cX8_drop 70 = .ok (.getfield 73, 3) := by decide +kernel
theorem dX8_drop_73 : decode cX8_drop 73 = .ok (.bipush 60, 2) := by decide +kernel
theorem dX8_drop_75 : decode cX8_drop 75 = .ok (.iconst 4, 1) := by decide +kernel
theorem dX8_drop_76 : decode cX8_drop 76 = .ok (.iload_n 1, 1) := by decide +kernel
theorem dX8_drop_77 : decode cX8_drop 77 = .ok (.imul, 1) := by decide +kernel
theorem dX8_drop_78 : decode cX8_drop 78 = .ok (.iadd, 1) := by decide +kernel
theorem dX8_drop_79 : decode cX8_drop 79 = .ok (.iconst 3, 1) := by decide +kernel
theorem dX8_drop_80 : decode cX8_drop 80 = .ok (.iadd, 1) := by decide +kernel
theorem dX8_drop_81 : decode cX8_drop 81 = .ok (.iconst 1, 1) := by decide +kernel
theorem dX8_drop_82 : decode cX8_drop 82 = .ok (.iastore, 1) := by decide +kernel
theorem dX8_drop_83 : decode cX8_drop 83 = .ok (.iconst 1, 1) := by decide +kernel
theorem dX8_drop_84 : decode cX8_drop 84 = .ok (.ireturn, 1) := by decide +kernel
theorem dX8_restore_0 : decode cX8_restore 0 = .ok (.aload_n 0, 1) := by decide +kernel
theorem dX8_restore_1 : decode cX8_restore 1 = .ok (.getfield 73, 3) := by decide +kernel
theorem dX8_restore_4 : decode cX8_restore 4 = .ok (.iconst 2, 1) := by decide +kernel
theorem dX8_restore_5 : decode cX8_restore 5 = .ok (.iaload, 1) := by decide +kernel
theorem dX8_restore_6 : decode cX8_restore 6 = .ok (.bipush 8, 2) := by decide +kernel
theorem dX8_restore_8 : decode cX8_restore 8 = .ok (.if_icmp .ne 5, 3) := by decide +kernel
theorem dX8_restore_11 : decode cX8_restore 11 = .ok (.iconst 1, 1) := by decide +kernel
theorem dX8_restore_12 : decode cX8_restore 12 = .ok (.ireturn, 1) := by decide +kernel
theorem dX8_restore_13 : decode cX8_restore 13 = .ok (.aload_n 0, 1) := by decide +kernel
theorem dX8_restore_14 : decode cX8_restore 14 = .ok (.iload_n 1, 1) := by decide +kernel
theorem dX8_restore_15 : decode cX8_restore 15 = .ok (.iload_n 2, 1) := by decide +kernel
theorem dX8_restore_16 : decode cX8_restore 16 = .ok (.iload_n 3, 1) := by decide +kernel
theorem dX8_restore_17 : decode cX8_restore 17 = .ok (.invokevirtual 350, 3) := by decide +kernel
theorem dX8_restore_20 : decode cX8_restore 20 = .ok (.istore 4, 2) := by decide +kernel
theorem dX8_restore_22 : decode cX8_restore 22 = .ok (.iload 4, 2) := by decide +kernel
theorem dX8_restore_24 : decode cX8_restore 24 = .ok (.ifCond .ne 10, 3) := by decide +kernel
theorem dX8_restore_27 : decode cX8_restore 27 = .ok (.aload_n 0, 1) := by decide +kernel
theorem dX8_restore_28 : decode cX8_restore 28 = .ok (.iload_n 2, 1) := by decide +kernel
theorem dX8_restore_29 : decode cX8_restore 29 = .ok (.iload_n 3, 1) := by decide +kernel
theorem dX8_restore_30 : decode cX8_restore 30 = .ok (.iload_n 3, 1) := by decide +kernel
theorem dX8_restore_31 : decode cX8_restore 31 = .ok (.invokevirtual 258, 3) := by decide +kernel
theorem dX8_restore_34 : decode cX8_restore 34 = .ok (.iload 4, 2) := by decide +kernel
theorem dX8_restore_36 : decode cX8_restore 36 = .ok (.ireturn, 1) := by decide +kernel
theorem dX8_lose_0 : decode cX8_lose 0 = .ok (.aload_n 0, 1) := by decide +kernel
theorem dX8_lose_1 : decode cX8_lose 1 = .ok (.iload_n 1, 1) := by decide +kernel
theorem dX8_lose_2 : decode cX8_lose 2 = .ok (.iload_n 2, 1) := by decide +kernel
theorem dX8_lose_3 : decode cX8_lose 3 = .ok (.invokevirtual 352, 3) := by decide +kernel
theorem dX8_lose_6 : decode cX8_lose 6 = .ok (.ifCond .eq 12, 3) := by decide +kernel
theorem dX8_lose_9 : decode cX8_lose 9 = .ok (.aload_n 0, 1) := by decide +kernel
theorem dX8_lose_10 : decode cX8_lose 10 = .ok (.iload_n 1, 1) := by decide +kernel
theorem dX8_lose_11 : decode cX8_lose 11 = .ok (.iload_n 2, 1) := by decide +kernel
theorem dX8_lose_12 : decode cX8_lose 12 = .ok (.invokevirtual 295, 3) := by decide +kernel
theorem dX8_lose_15 : decode cX8_lose 15 = .ok (.ifCond .ne 5, 3) := by decide +kernel
theorem dX8_lose_18 : decode cX8_lose 18 = .ok (.iconst 0, 1) := by decide +kernel
theorem dX8_lose_19 : decode cX8_lose 19 = .ok (.ireturn, 1) := by decide +kernel
theorem dX8_lose_20 : decode cX8_lose 20 = .ok (.aload_n 0, 1) := by decide +kernel
theorem dX8_lose_21 : decode cX8_lose 21 = .ok (.getfield 73, 3) := by decide +kernel
theorem dX8_lose_24 : decode cX8_lose 24 = .ok (.sipush 420, 3) := by decide +kernel
theorem dX8_lose_27 : decode cX8_lose 27 = .ok (.bipush 120, 2) := by decide +kernel
theorem dX8_lose_29 : decode cX8_lose 29 = .ok (.iload_n 1, 1) := by decide +kernel
theorem dX8_lose_30 : decode cX8_lose 30 = .ok (.imul, 1) := by decide +kernel
theorem dX8_lose_31 : decode cX8_lose 31 = .ok (.iadd, 1) := by decide +kernel
theorem dX8_lose_32 : decode cX8_lose 32 = .ok (.iload_n 2, 1) := by decide +kernel
theorem dX8_lose_33 : decode cX8_lose 33 = .ok (.iadd, 1) := by decide +kernel
theorem dX8_lose_34 : decode cX8_lose 34 = .ok (.iconst 0, 1) := by decide +kernel
theorem dX8_lose_35 : decode cX8_lose 35 = .ok (.iastore, 1) := by decide +kernel
theorem dX8_lose_36 : decode cX8_lose 36 = .ok (.iconst 1, 1) := by decide +kernel
theorem dX8_lose_37 : decode cX8_lose 37 = .ok (.ireturn, 1) := by decide +kernel
theorem dX8_twice_0 : decode cX8_twice 0 = .ok (.iload_n 3, 1) := by decide +kernel
theorem dX8_twice_1 : decode cX8_twice 1 = .ok (.ifCond .eq 7, 3) := by decide +kernel
theorem dX8_twice_4 : decode cX8_twice 4 = .ok (.iconst 2, 1) := by decide +kernel
theorem dX8_twice_5 : decode cX8_twice 5 = .ok (.goto 4, 3) := by decide +kernel
theorem dX8_twice_8 : decode cX8_twice 8 = .ok (.iconst 3, 1) := by decide +kernel
theorem dX8_twice_9 : decode cX8_twice 9 = .ok (.istore 4, 2) := by decide +kernel
theorem dX8_twice_11 : decode cX8_twice 11 = .ok (.aload_n 0, 1) := by decide +kernel
theorem dX8_twice_12 : decode cX8_twice 12 = .ok (.iload_n 1, 1) := by decide +kernel
theorem dX8_twice_13 : decode cX8_twice 13 = .ok (.iload_n 2, 1) := by decide +kernel
theorem dX8_twice_14 : decode cX8_twice 14 = .ok (.invokevirtual 352, 3) := by decide +kernel
theorem dX8_twice_17 : decode cX8_twice 17 = .ok (.ifCond .eq 23, 3) := by decide +kernel
theorem dX8_twice_20 : decode cX8_twice 20 = .ok (.aload_n 0, 1) := by decide +kernel
theorem dX8_twice_21 : decode cX8_twice 21 = .ok (.iload_n 1, 1) := by decide +kernel
theorem dX8_twice_22 : decode cX8_twice 22 = .ok (.iload_n 2, 1) := by decide +kernel
theorem dX8_twice_23 : decode cX8_twice 23 = .ok (.invokevirtual 295, 3) := by decide +kernel
theorem dX8_twice_26 : decode cX8_twice 26 = .ok (.ifCond .eq 14, 3) := by decide +kernel
theorem dX8_twice_29 : decode cX8_twice 29 = .ok (.aload_n 0, 1) := by decide +kernel
theorem dX8_twice_30 : decode cX8_twice 30 = .ok (.iload_n 1, 1) := by decide +kernel
theorem dX8_twice_31 : decode cX8_twice 31 = .ok (.iload_n 2, 1) := by decide +kernel
theorem dX8_twice_32 : decode cX8_twice 32 = .ok (.invokevirtual 295, 3) := by decide +kernel
theorem dX8_twice_35 : decode cX8_twice 35 = .ok (.iload 4, 2) := by decide +kernel
theorem dX8_twice_37 : decode cX8_twice 37 = .ok (.if_icmp .ne 5, 3) := by decide +kernel
theorem dX8_twice_40 : decode cX8_twice 40 = .ok (.iconst 0, 1) := by decide +kernel
theorem dX8_twice_41 : decode cX8_twice 41 = .ok (.ireturn, 1) := by decide +kernel
theorem dX8_twice_42 : decode cX8_twice 42 = .ok (.aload_n 0, 1) := by decide +kernel
theorem dX8_twice_43 : decode cX8_twice 43 = .ok (.getfield 73, 3) := by decide +kernel
theorem dX8_twice_46 : decode cX8_twice 46 = .ok (.sipush 420, 3) := by decide +kernel
theorem dX8_twice_49 : decode cX8_twice 49 = .ok (.bipush 120, 2) := by decide +kernel
theorem dX8_twice_51 : decode cX8_twice 51 = .ok (.iload_n 1, 1) := by decide +kernel
theorem dX8_twice_52 : decode cX8_twice 52 = .ok (.imul, 1) := by decide +kernel
theorem dX8_twice_53 : decode cX8_twice 53 = .ok (.iadd, 1) := by decide +kernel
theorem dX8_twice_54 : decode cX8_twice 54 = .ok (.iload_n 2, 1) := by decide +kernel
theorem dX8_twice_55 : decode cX8_twice 55 = .ok (.iadd, 1) := by decide +kernel
theorem dX8_twice_56 : decode cX8_twice 56 = .ok (.iload 4, 2) := by decide +kernel
theorem dX8_twice_58 : decode cX8_twice 58 = .ok (.iastore, 1) := by decide +kernel
theorem dX8_twice_59 : decode cX8_twice 59 = .ok (.iconst 1, 1) := by decide +kernel
theorem dX8_twice_60 : decode cX8_twice 60 = .ok (.ireturn, 1) := by decide +kernel
theorem dX8_page_0 : decode cX8_page 0 = .ok (.aload_n 0, 1) := by decide +kernel
theorem dX8_page_1 : decode cX8_page 1 = .ok (.iload_n 1, 1) := by decide +kernel
theorem dX8_page_2 : decode cX8_page 2 = .ok (.invokevirtual 334, 3) := by decide +kernel
theorem dX8_page_5 : decode cX8_page 5 = .ok (.ifCond .eq 22, 3) := by decide +kernel
theorem dX8_page_8 : decode cX8_page 8 = .ok (.aload_n 0, 1) := by decide +kernel
theorem dX8_page_9 : decode cX8_page 9 = .ok (.iload_n 2, 1) := by decide +kernel
theorem dX8_page_10 : decode cX8_page 10 = .ok (.iload_n 3, 1) := by decide +kernel
theorem dX8_page_11 : decode cX8_page 11 = .ok (.invokevirtual 304, 3) := by decide +kernel
theorem dX8_page_14 : decode cX8_page 14 = .ok (.ifCond .eq 13, 3) := by decide +kernel
theorem dX8_page_17 : decode cX8_page 17 = .ok (.aload_n 0, 1) := by decide +kernel
theorem dX8_page_18 : decode cX8_page 18 = .ok (.iload_n 1, 1) := by decide +kernel
theorem dX8_page_19 : decode cX8_page 19 = .ok (.iload_n 2, 1) := by decide +kernel
theorem dX8_page_20 : decode cX8_page 20 = .ok (.iload_n 3, 1) := by decide +kernel
theorem dX8_page_21 : decode cX8_page 21 = .ok (.invokevirtual 343, 3) := by decide +kernel
theorem dX8_page_24 : decode cX8_page 24 = .ok (.goto 4, 3) := by decide +kernel
theorem dX8_page_27 : decode cX8_page 27 = .ok (.iconst 0, 1) := by decide +kernel
theorem dX8_page_28 : decode cX8_page 28 = .ok (.ireturn, 1) := by decide +kernel
theorem dX8_isRecord_0 : decode cX8_isRecord 0 = .ok (.aload_n 0, 1) := by decide +kernel
theorem dX8_isRecord_1 : decode cX8_isRecord 1 = .ok (.iload_n 1, 1) := by decide +kernel
theorem dX8_isRecord_2 : decode cX8_isRecord 2 = .ok (.iload_n 2, 1) := by decide +kernel
theorem dX8_isRecord_3 : decode cX8_isRecord 3 = .ok (.invokevirtual 304, 3) := by decide +kernel
theorem dX8_isRecord_6 : decode cX8_isRecord 6 = .ok (.ifCond .eq 11, 3) := by decide +kernel
theorem dX8_isRecord_9 : decode cX8_isRecord 9 = .ok (.iload_n 2, 1) := by decide +kernel
theorem dX8_isRecord_10 : decode cX8_isRecord 10 = .ok (.ifCond .le 7, 3) := by decide +kernel
theorem dX8_isRecord_13 : decode cX8_isRecord 13 = .ok (.iconst 1, 1) := by decide +kernel
theorem dX8_isRecord_14 : decode cX8_isRecord 14 = .ok (.goto 4, 3) := by decide +kernel
theorem dX8_isRecord_17 : decode cX8_isRecord 17 = .ok (.iconst 0, 1) := by decide +kernel
theorem dX8_isRecord_18 : decode cX8_isRecord 18 = .ok (.ireturn, 1) := by decide +kernel
theorem dX8_record_0 : decode cX8_record 0 = .ok (.aload_n 0, 1) := by decide +kernel
theorem dX8_record_1 : decode cX8_record 1 = .ok (.iload_n 1, 1) := by decide +kernel
theorem dX8_record_2 : decode cX8_record 2 = .ok (.iload_n 2, 1) := by decide +kernel
theorem dX8_record_3 : decode cX8_record 3 = .ok (.invokevirtual 355, 3) := by decide +kernel
theorem dX8_record_6 : decode cX8_record 6 = .ok (.ifCond .eq 12, 3) := by decide +kernel
theorem dX8_record_9 : decode cX8_record 9 = .ok (.iload_n 3, 1) := by decide +kernel
theorem dX8_record_10 : decode cX8_record 10 = .ok (.iconst 0, 1) := by decide +kernel
theorem dX8_record_11 : decode cX8_record 11 = .ok (.iconst 2, 1) := by decide +kernel
theorem dX8_record_12 : decode cX8_record 12 = .ok (.invokestatic 194, 3) := by decide +kernel
theorem dX8_record_15 : decode cX8_record 15 = .ok (.ifCond .ne 7, 3) := by decide +kernel
theorem dX8_record_18 : decode cX8_record 18 = .ok (.ldc_w 358, 3) := by decide +kernel
theorem dX8_record_21 : decode cX8_record 21 = .ok (.ireturn, 1) := by decide +kernel
theorem dX8_record_22 : decode cX8_record 22 = .ok (.iload_n 3, 1) := by decide +kernel
theorem dX8_record_23 : decode cX8_record 23 = .ok (.iconst 2, 1) := by decide +kernel
theorem dX8_record_24 : decode cX8_record 24 = .ok (.if_icmp .ne 12, 3) := by decide +kernel
theorem dX8_record_27 : decode cX8_record 27 = .ok (.aload_n 0, 1) := by decide +kernel
theorem dX8_record_28 : decode cX8_record 28 = .ok (.iload_n 1, 1) := by decide +kernel
theorem dX8_record_29 : decode cX8_record 29 = .ok (.iload_n 2, 1) := by decide +kernel
theorem dX8_record_30 : decode cX8_record 30 = .ok (.invokevirtual 271, 3) := by decide +kernel
theorem dX8_record_33 : decode cX8_record 33 = .ok (.goto 16, 3) := by decide +kernel
theorem dX8_record_36 : decode cX8_record 36 = .ok (.aload_n 0, 1) := by decide +kernel
theorem dX8_record_37 : decode cX8_record 37 = .ok (.getfield 73, 3) := by decide +kernel
theorem dX8_record_40 : decode cX8_record 40 = .ok (.aload_n 0, 1) := by decide +kernel
theorem dX8_record_41 : decode cX8_record 41 = .ok (.iload_n 1, 1) := by decide +kernel
theorem dX8_record_42 : decode cX8_record 42 = .ok (.iload_n 2, 1) := by decide +kernel
theorem dX8_record_43 : decode cX8_record 43 = .ok (.invokevirtual 280, 3) := by decide +kernel
theorem dX8_record_46 : decode cX8_record 46 = .ok (.iload_n 3, 1) := by decide +kernel
theorem dX8_record_47 : decode cX8_record 47 = .ok (.iadd, 1) := by decide +kernel
theorem dX8_record_48 : decode cX8_record 48 = .ok (.iaload, 1) := by decide +kernel
theorem dX8_record_49 : decode cX8_record 49 = .ok (.ireturn, 1) := by decide +kernel
theorem dX8_value_0 : decode cX8_value 0 = .ok (.aload_n 0, 1) := by decide +kernel
theorem dX8_value_1 : decode cX8_value 1 = .ok (.iload_n 1, 1) := by decide +kernel
theorem dX8_value_2 : decode cX8_value 2 = .ok (.iload_n 2, 1) := by decide +kernel
theorem dX8_value_3 : decode cX8_value 3 = .ok (.invokevirtual 355, 3) := by decide +kernel
theorem dX8_value_6 : decode cX8_value 6 = .ok (.ifCond .eq 19, 3) := by decide +kernel
theorem dX8_value_9 : decode cX8_value 9 = .ok (.aload_n 0, 1) := by decide +kernel
theorem dX8_value_10 : decode cX8_value 10 = .ok (.getfield 73, 3) := by decide +kernel
theorem dX8_value_13 : decode cX8_value 13 = .ok (.aload_n 0, 1) := by decide +kernel
theorem dX8_value_14 : decode cX8_value 14 = .ok (.iload_n 1, 1) := by decide +kernel
theorem dX8_value_15 : decode cX8_value 15 = .ok (.iload_n 2, 1) := by decide +kernel
theorem dX8_value_16 : decode cX8_value 16 = .ok (.invokevirtual 280, 3) := by decide +kernel
theorem dX8_value_19 : decode cX8_value 19 = .ok (.iconst 2, 1) := by decide +kernel
theorem dX8_value_20 : decode cX8_value 20 = .ok (.iadd, 1) := by decide +kernel
theorem dX8_value_21 : decode cX8_value 21 = .ok (.iaload, 1) := by decide +kernel
theorem dX8_value_22 : decode cX8_value 22 = .ok (.goto 4, 3) := by decide +kernel
theorem dX8_value_25 : decode cX8_value 25 = .ok (.iconst 0, 1) := by decide +kernel
theorem dX8_value_26 : decode cX8_value 26 = .ok (.ireturn, 1) := by decide +kernel
theorem dX8_linesOf_0 : decode cX8_linesOf 0 = .ok (.iconst 1, 1) := by decide +kernel
theorem dX8_linesOf_1 : decode cX8_linesOf 1 = .ok (.istore_n 2, 1) := by decide +kernel
theorem dX8_linesOf_2 : decode cX8_linesOf 2 = .ok (.iload_n 1, 1) := by decide +kernel
theorem dX8_linesOf_3 : decode cX8_linesOf 3 = .ok (.istore_n 3, 1) := by decide +kernel
theorem dX8_linesOf_4 : decode cX8_linesOf 4 = .ok (.iload_n 3, 1) := by decide +kernel
theorem dX8_linesOf_5 : decode cX8_linesOf 5 = .ok (.ifCond .le 15, 3) := by decide +kernel
theorem dX8_linesOf_8 : decode cX8_linesOf 8 = .ok (.iinc 2 1, 3) := by decide +kernel
theorem dX8_linesOf_11 : decode cX8_linesOf 11 = .ok (.aload_n 0, 1) := by decide +kernel
theorem dX8_linesOf_12 : decode cX8_linesOf 12 = .ok (.iload_n 3, 1) := by decide +kernel
theorem dX8_linesOf_13 : decode cX8_linesOf 13 = .ok (.invokevirtual 268, 3) := by decide +kernel
theorem dX8_linesOf_16 : decode cX8_linesOf 16 = .ok (.istore_n 3, 1) := by decide +kernel
theorem dX8_linesOf_17 : decode cX8_linesOf 17 = .ok (.goto (-13), 3) := by decide +kernel
theorem dX8_linesOf_20 : decode cX8_linesOf 20 = .ok (.iload_n 2, 1) := by decide +kernel
theorem dX8_linesOf_21 : decode cX8_linesOf 21 = .ok (.ireturn, 1) := by decide +kernel
theorem dX8_line_0 : decode cX8_line 0 = .ok (.aload_n 0, 1) := by decide +kernel
theorem dX8_line_1 : decode cX8_line 1 = .ok (.iload_n 1, 1) := by decide +kernel
theorem dX8_line_2 : decode cX8_line 2 = .ok (.invokevirtual 262, 3) := by decide +kernel
theorem dX8_line_5 : decode cX8_line 5 = .ok (.ifCond .ne 5, 3) := by decide +kernel
theorem dX8_line_8 : decode cX8_line 8 = .ok (.iconst (-1), 1) := by decide +kernel
theorem dX8_line_9 : decode cX8_line 9 = .ok (.ireturn, 1) := by decide +kernel
theorem dX8_line_10 : decode cX8_line 10 = .ok (.iload_n 2, 1) := by decide +kernel
theorem dX8_line_11 : decode cX8_line 11 = .ok (.tableswitch 59 0 4 #[33, 33, 33, 47, 53], 33) := by decide +kernel
theorem dX8_line_44 : decode cX8_line 44 = .ok (.aload_n 0, 1) := by decide +kernel
theorem dX8_line_45 : decode cX8_line 45 = .ok (.getfield 73, 3) := by decide +kernel
theorem dX8_line_48 : decode cX8_line 48 = .ok (.bipush 20, 2) := by decide +kernel
theorem dX8_line_50 : decode cX8_line 50 = .ok (.iconst 4, 1) := by decide +kernel
theorem dX8_line_51 : decode cX8_line 51 = .ok (.iload_n 1, 1) := by decide +kernel
theorem dX8_line_52 : decode cX8_line 52 = .ok (.imul, 1) := by decide +kernel
theorem dX8_line_53 : decode cX8_line 53 = .ok (.iadd, 1) := by decide +kernel
theorem dX8_line_54 : decode cX8_line 54 = .ok (.iload_n 2, 1) := by decide +kernel
theorem dX8_line_55 : decode cX8_line 55 = .ok (.iadd, 1) := by decide +kernel
theorem dX8_line_56 : decode cX8_line 56 = .ok (.iaload, 1) := by decide +kernel
theorem dX8_line_57 : decode cX8_line 57 = .ok (.ireturn, 1) := by decide +kernel
theorem dX8_line_58 : decode cX8_line 58 = .ok (.aload_n 0, 1) := by decide +kernel
theorem dX8_line_59 : decode cX8_line 59 = .ok (.iload_n 1, 1) := by decide +kernel
theorem dX8_line_60 : decode cX8_line 60 = .ok (.invokevirtual 359, 3) := by decide +kernel
theorem dX8_line_63 : decode cX8_line 63 = .ok (.ireturn, 1) := by decide +kernel
theorem dX8_line_64 : decode cX8_line 64 = .ok (.aload_n 0, 1) := by decide +kernel
theorem dX8_line_65 : decode cX8_line 65 = .ok (.iload_n 1, 1) := by decide +kernel
theorem dX8_line_66 : decode cX8_line 66 = .ok (.invokevirtual 292, 3) := by decide +kernel
theorem dX8_line_69 : decode cX8_line 69 = .ok (.ireturn, 1) := by decide +kernel
theorem dX8_line_70 : decode cX8_line 70 = .ok (.iconst (-1), 1) := by decide +kernel
theorem dX8_line_71 : decode cX8_line 71 = .ok (.ireturn, 1) := by decide +kernel
theorem dX8_piece_0 : decode cX8_piece 0 = .ok (.aload_n 0, 1) := by decide +kernel
theorem dX8_piece_1 : decode cX8_piece 1 = .ok (.iload_n 1, 1) := by decide +kernel
theorem dX8_piece_2 : decode cX8_piece 2 = .ok (.iload_n 2, 1) := by decide +kernel
theorem dX8_piece_3 : decode cX8_piece 3 = .ok (.invokevirtual 352, 3) := by decide +kernel
theorem dX8_piece_6 : decode cX8_piece 6 = .ok (.ifCond .eq 12, 3) := by decide +kernel
theorem dX8_piece_9 : decode cX8_piece 9 = .ok (.aload_n 0, 1) := by decide +kernel
theorem dX8_piece_10 : decode cX8_piece 10 = .ok (.iload_n 1, 1) := by decide +kernel
theorem dX8_piece_11 : decode cX8_piece 11 = .ok (.iload_n 2, 1) := by decide +kernel
theorem dX8_piece_12 : decode cX8_piece 12 = .ok (.invokevirtual 295, 3) := by decide +kernel
theorem dX8_piece_15 : decode cX8_piece 15 = .ok (.goto 4, 3) := by decide +kernel
theorem dX8_piece_18 : decode cX8_piece 18 = .ok (.iconst (-1), 1) := by decide +kernel
theorem dX8_piece_19 : decode cX8_piece 19 = .ok (.ireturn, 1) := by decide +kernel
theorem dX8_way_0 : decode cX8_way 0 = .ok (.aload_n 0, 1) := by decide +kernel
theorem dX8_way_1 : decode cX8_way 1 = .ok (.iload_n 1, 1) := by decide +kernel
theorem dX8_way_2 : decode cX8_way 2 = .ok (.invokevirtual 262, 3) := by decide +kernel
theorem dX8_way_5 : decode cX8_way 5 = .ok (.ifCond .eq 18, 3) := by decide +kernel
theorem dX8_way_8 : decode cX8_way 8 = .ok (.iload_n 2, 1) := by decide +kernel
theorem dX8_way_9 : decode cX8_way 9 = .ok (.iconst 0, 1) := by decide +kernel
theorem dX8_way_10 : decode cX8_way 10 = .ok (.aload_n 0, 1) := by decide +kernel
theorem dX8_way_11 : decode cX8_way 11 = .ok (.iload_n 1, 1) := by decide +kernel
theorem dX8_way_12 : decode cX8_way 12 = .ok (.invokevirtual 359, 3) := by decide +kernel
theorem dX8_way_15 : decode cX8_way 15 = .ok (.iconst 1, 1) := by decide +kernel
theorem dX8_way_16 : decode cX8_way 16 = .ok (.isub, 1) := by decide +kernel
theorem dX8_way_17 : decode cX8_way 17 = .ok (.invokestatic 194, 3) := by decide +kernel
theorem dX8_way_20 : decode cX8_way 20 = .ok (.ifCond .ne 5, 3) := by decide +kernel
theorem dX8_way_23 : decode cX8_way 23 = .ok (.iconst (-1), 1) := by decide +kernel
theorem dX8_way_24 : decode cX8_way 24 = .ok (.ireturn, 1) := by decide +kernel
theorem dX8_way_25 : decode cX8_way 25 = .ok (.iload_n 1, 1) := by decide +kernel
theorem dX8_way_26 : decode cX8_way 26 = .ok (.istore_n 3, 1) := by decide +kernel
theorem dX8_way_27 : decode cX8_way 27 = .ok (.iconst 0, 1) := by decide +kernel
theorem dX8_way_28 : decode cX8_way 28 = .ok (.istore 4, 2) := by decide +kernel
theorem dX8_way_30 : decode cX8_way 30 = .ok (.iload 4, 2) := by decide +kernel
theorem dX8_way_32 : decode cX8_way 32 = .ok (.iload_n 2, 1) := by decide +kernel
theorem dX8_way_33 : decode cX8_way 33 = .ok (.if_icmp .ge 15, 3) := by decide +kernel
theorem dX8_way_36 : decode cX8_way 36 = .ok (.aload_n 0, 1) := by decide +kernel
theorem dX8_way_37 : decode cX8_way 37 = .ok (.iload_n 3, 1) := by decide +kernel
theorem dX8_way_38 : decode cX8_way 38 = .ok (.invokevirtual 268, 3) := by decide +kernel
theorem dX8_way_41 : decode cX8_way 41 = .ok (.istore_n 3, 1) := by decide +kernel
theorem dX8_way_42 : decode cX8_way 42 = .ok (.iinc 4 1, 3) := by decide +kernel
theorem dX8_way_45 : decode cX8_way 45 = .ok (.goto (-15), 3) := by decide +kernel
theorem dX8_way_48 : decode cX8_way 48 = .ok (.iload_n 3, 1) := by decide +kernel
theorem dX8_way_49 : decode cX8_way 49 = .ok (.ireturn, 1) := by decide +kernel
theorem dX8_changeAhead_0 : decode cX8_changeAhead 0 = .ok (.iconst 0, 1) := by decide +kernel
theorem dX8_changeAhead_1 : decode cX8_changeAhead 1 = .ok (.istore 4, 2) := by decide +kernel
theorem dX8_changeAhead_3 : decode cX8_changeAhead 3 = .ok (.iconst 1, 1) := by decide +kernel
theorem dX8_changeAhead_4 : decode cX8_changeAhead 4 = .ok (.istore 5, 2) := by decide +kernel
theorem dX8_changeAhead_6 : decode cX8_changeAhead 6 = .ok (.iload 5, 2) := by decide +kernel
theorem dX8_changeAhead_8 : decode cX8_changeAhead 8 = .ok (.iload_n 3, 1) := by decide +kernel
theorem dX8_changeAhead_9 : decode cX8_changeAhead 9 = .ok (.if_icmp .gt 24, 3) := by decide +kernel
theorem dX8_changeAhead_12 : decode cX8_changeAhead 12 = .ok (.aload_n 0, 1) := by decide +kernel
theorem dX8_changeAhead_13 : decode cX8_changeAhead 13 = .ok (.iload_n 2, 1) := by decide +kernel
theorem dX8_changeAhead_14 : decode cX8_changeAhead 14 = .ok (.iload 5, 2) := by decide +kernel
theorem dX8_changeAhead_16 : decode cX8_changeAhead 16 = .ok (.invokevirtual 283, 3) := by decide +kernel
theorem dX8_changeAhead_19 : decode cX8_changeAhead 19 = .ok (.iload_n 1, 1) := by decide +kernel
theorem dX8_changeAhead_20 : decode cX8_changeAhead 20 = .ok (.if_icmp .ne 7, 3) := by decide +kernel
theorem dX8_changeAhead_23 : decode cX8_changeAhead 23 = .ok (.iload 5, 2) := by decide +kernel
theorem dX8_changeAhead_25 : decode cX8_changeAhead 25 = .ok (.istore 4, 2) := by decide +kernel
theorem dX8_changeAhead_27 : decode cX8_changeAhead 27 = .ok (.iinc 5 1, 3) := by decide +kernel
theorem dX8_changeAhead_30 : decode cX8_changeAhead 30 = .ok (.goto (-24), 3) := by decide +kernel
theorem dX8_changeAhead_33 : decode cX8_changeAhead 33 = .ok (.iload 4, 2) := by decide +kernel
theorem dX8_changeAhead_35 : decode cX8_changeAhead 35 = .ok (.ireturn, 1) := by decide +kernel
theorem dX8_last_0 : decode cX8_last 0 = .ok (.aload_n 0, 1) := by decide +kernel
theorem dX8_last_1 : decode cX8_last 1 = .ok (.iload_n 1, 1) := by decide +kernel
theorem dX8_last_2 : decode cX8_last 2 = .ok (.invokevirtual 334, 3) := by decide +kernel
theorem dX8_last_5 : decode cX8_last 5 = .ok (.ifCond .eq 22, 3) := by decide +kernel
theorem dX8_last_8 : decode cX8_last 8 = .ok (.aload_n 0, 1) := by decide +kernel
theorem dX8_last_9 : decode cX8_last 9 = .ok (.iload_n 2, 1) := by decide +kernel
theorem dX8_last_10 : decode cX8_last 10 = .ok (.iload_n 3, 1) := by decide +kernel
theorem dX8_last_11 : decode cX8_last 11 = .ok (.invokevirtual 304, 3) := by decide +kernel
theorem dX8_last_14 : decode cX8_last 14 = .ok (.ifCond .eq 13, 3) := by decide +kernel
theorem dX8_last_17 : decode cX8_last 17 = .ok (.aload_n 0, 1) := by decide +kernel
theorem dX8_last_18 : decode cX8_last 18 = .ok (.iload_n 1, 1) := by decide +kernel
theorem dX8_last_19 : decode cX8_last 19 = .ok (.iload_n 2, 1) := by decide +kernel
theorem dX8_last_20 : decode cX8_last 20 = .ok (.iload_n 3, 1) := by decide +kernel
theorem dX8_last_21 : decode cX8_last 21 = .ok (.invokevirtual 362, 3) := by decide +kernel
theorem dX8_last_24 : decode cX8_last 24 = .ok (.goto 4, 3) := by decide +kernel
theorem dX8_last_27 : decode cX8_last 27 = .ok (.iconst (-1), 1) := by decide +kernel
theorem dX8_last_28 : decode cX8_last 28 = .ok (.ireturn, 1) := by decide +kernel
theorem dX8_isMark_0 : decode cX8_isMark 0 = .ok (.aload_n 0, 1) := by decide +kernel
theorem dX8_isMark_1 : decode cX8_isMark 1 = .ok (.getfield 73, 3) := by decide +kernel
theorem dX8_isMark_4 : decode cX8_isMark 4 = .ok (.aload_n 0, 1) := by decide +kernel
theorem dX8_isMark_5 : decode cX8_isMark 5 = .ok (.iload_n 1, 1) := by decide +kernel
theorem dX8_isMark_6 : decode cX8_isMark 6 = .ok (.iload_n 2, 1) := by decide +kernel
theorem dX8_isMark_7 : decode cX8_isMark 7 = .ok (.invokevirtual 280, 3) := by decide +kernel
theorem dX8_isMark_10 : decode cX8_isMark 10 = .ok (.iaload, 1) := by decide +kernel
theorem dX8_isMark_11 : decode cX8_isMark 11 = .ok (.iconst 2, 1) := by decide +kernel
theorem dX8_isMark_12 : decode cX8_isMark 12 = .ok (.if_icmp .ne 24, 3) := by decide +kernel
theorem dX8_isMark_15 : decode cX8_isMark 15 = .ok (.aload_n 0, 1) := by decide +kernel
theorem dX8_isMark_16 : decode cX8_isMark 16 = .ok (.getfield 73, 3) := by decide +kernel
theorem dX8_isMark_19 : decode cX8_isMark 19 = .ok (.aload_n 0, 1) := by decide +kernel
theorem dX8_isMark_20 : decode cX8_isMark 20 = .ok (.iload_n 1, 1) := by decide +kernel
theorem dX8_isMark_21 : decode cX8_isMark 21 = .ok (.iload_n 2, 1) := by decide +kernel
theorem dX8_isMark_22 : decode cX8_isMark 22 = .ok (.invokevirtual 280, 3) := by decide +kernel
theorem dX8_isMark_25 : decode cX8_isMark 25 = .ok (.iconst 1, 1) := by decide +kernel
theorem dX8_isMark_26 : decode cX8_isMark 26 = .ok (.iadd, 1) := by decide +kernel
theorem dX8_isMark_27 : decode cX8_isMark 27 = .ok (.iaload, 1) := by decide +kernel
theorem dX8_isMark_28 : decode cX8_isMark 28 = .ok (.iload_n 3, 1) := by decide +kernel
theorem dX8_isMark_29 : decode cX8_isMark 29 = .ok (.if_icmp .ne 7, 3) := by decide +kernel
theorem dX8_isMark_32 : decode cX8_isMark 32 = .ok (.iconst 1, 1) := by decide +kernel
theorem dX8_isMark_33 : decode cX8_isMark 33 = .ok (.goto 4, 3) := by decide +kernel
theorem dX8_isMark_36 : decode cX8_isMark 36 = .ok (.iconst 0, 1) := by decide +kernel
theorem dX8_isMark_37 : decode cX8_isMark 37 = .ok (.ireturn, 1) := by decide +kernel
theorem dX8_stop_0 : decode cX8_stop 0 = .ok (.aload_n 0, 1) := by decide +kernel
theorem dX8_stop_1 : decode cX8_stop 1 = .ok (.iload_n 1, 1) := by decide +kernel
theorem dX8_stop_2 : decode cX8_stop 2 = .ok (.invokevirtual 262, 3) := by decide +kernel
theorem dX8_stop_5 : decode cX8_stop 5 = .ok (.ifCond .ne 5, 3) := by decide +kernel
theorem dX8_stop_8 : decode cX8_stop 8 = .ok (.iconst (-1), 1) := by decide +kernel
theorem dX8_stop_9 : decode cX8_stop 9 = .ok (.ireturn, 1) := by decide +kernel
theorem dX8_stop_10 : decode cX8_stop 10 = .ok (.bipush (-2), 2) := by decide +kernel
theorem dX8_stop_12 : decode cX8_stop 12 = .ok (.istore 4, 2) := by decide +kernel
theorem dX8_stop_14 : decode cX8_stop 14 = .ok (.iconst 1, 1) := by decide +kernel
theorem dX8_stop_15 : decode cX8_stop 15 = .ok (.istore 5, 2) := by decide +kernel
theorem dX8_stop_17 : decode cX8_stop 17 = .ok (.iload 5, 2) := by decide +kernel
theorem dX8_stop_19 : decode cX8_stop 19 = .ok (.aload_n 0, 1) := by decide +kernel
theorem dX8_stop_20 : decode cX8_stop 20 = .ok (.iload_n 1, 1) := by decide +kernel
theorem dX8_stop_21 : decode cX8_stop 21 = .ok (.invokevirtual 217, 3) := by decide +kernel
theorem dX8_stop_24 : decode cX8_stop 24 = .ok (.if_icmp .gt 35, 3) := by decide +kernel
theorem dX8_stop_27 : decode cX8_stop 27 = .ok (.aload_n 0, 1) := by decide +kernel
theorem dX8_stop_28 : decode cX8_stop 28 = .ok (.iload_n 1, 1) := by decide +kernel
theorem dX8_stop_29 : decode cX8_stop 29 = .ok (.iload 5, 2) := by decide +kernel
theorem dX8_stop_31 : decode cX8_stop 31 = .ok (.iload_n 2, 1) := by decide +kernel
theorem dX8_stop_32 : decode cX8_stop 32 = .ok (.invokevirtual 365, 3) := by decide +kernel
theorem dX8_stop_35 : decode cX8_stop 35 = .ok (.ifCond .eq 18, 3) := by decide +kernel
theorem dX8_stop_38 : decode cX8_stop 38 = .ok (.iload_n 3, 1) := by decide +kernel
theorem dX8_stop_39 : decode cX8_stop 39 = .ok (.ifCond .eq 8, 3) := by decide +kernel
theorem dX8_stop_42 : decode cX8_stop 42 = .ok (.iload 5, 2) := by decide +kernel
theorem dX8_stop_44 : decode cX8_stop 44 = .ok (.goto 7, 3) := by decide +kernel
theorem dX8_stop_47 : decode cX8_stop 47 = .ok (.iload 5, 2) := by decide +kernel
theorem dX8_stop_49 : decode cX8_stop 49 = .ok (.iconst 1, 1) := by decide +kernel
theorem dX8_stop_50 : decode cX8_stop 50 = .ok (.isub, 1) := by decide +kernel
theorem dX8_stop_51 : decode cX8_stop 51 = .ok (.istore 4, 2) := by decide +kernel
theorem dX8_stop_53 : decode cX8_stop 53 = .ok (.iinc 5 1, 3) := by decide +kernel
theorem dX8_stop_56 : decode cX8_stop 56 = .ok (.goto (-39), 3) := by decide +kernel
theorem dX8_stop_59 : decode cX8_stop 59 = .ok (.iload 4, 2) := by decide +kernel
theorem dX8_stop_61 : decode cX8_stop 61 = .ok (.ireturn, 1) := by decide +kernel
theorem dX8_where_0 : decode cX8_where 0 = .ok (.iload_n 2, 1) := by decide +kernel
theorem dX8_where_1 : decode cX8_where 1 = .ok (.iconst 0, 1) := by decide +kernel
theorem dX8_where_2 : decode cX8_where 2 = .ok (.iconst 2, 1) := by decide +kernel
theorem dX8_where_3 : decode cX8_where 3 = .ok (.invokestatic 194, 3) := by decide +kernel
theorem dX8_where_6 : decode cX8_where 6 = .ok (.ifCond .ne 5, 3) := by decide +kernel
theorem dX8_where_9 : decode cX8_where 9 = .ok (.iconst (-1), 1) := by decide +kernel
theorem dX8_where_10 : decode cX8_where 10 = .ok (.ireturn, 1) := by decide +kernel
theorem dX8_where_11 : decode cX8_where 11 = .ok (.iconst 0, 1) := by decide +kernel
theorem dX8_where_12 : decode cX8_where 12 = .ok (.istore_n 3, 1) := by decide +kernel
theorem dX8_where_13 : decode cX8_where 13 = .ok (.bipush (-2), 2) := by decide +kernel
theorem dX8_where_15 : decode cX8_where 15 = .ok (.istore 4, 2) := by decide +kernel
theorem dX8_where_17 : decode cX8_where 17 = .ok (.bipush (-2), 2) := by decide +kernel
theorem dX8_where_19 : decode cX8_where 19 = .ok (.istore 5, 2) := by decide +kernel
theorem dX8_where_21 : decode cX8_where 21 = .ok (.iconst 0, 1) := by decide +kernel
theorem dX8_where_22 : decode cX8_where 22 = .ok (.istore 6, 2) := by decide +kernel
theorem dX8_where_24 : decode cX8_where 24 = .ok (.iload 6, 2) := by decide +kernel
theorem dX8_where_26 : decode cX8_where 26 = .ok (.aload_n 0, 1) := by decide +kernel
theorem dX8_where_27 : decode cX8_where 27 = .ok (.getfield 73, 3) := by decide +kernel
theorem dX8_where_30 : decode cX8_where 30 = .ok (.iconst 2, 1) := by decide +kernel
theorem dX8_where_31 : decode cX8_where 31 = .ok (.iaload, 1) := by decide +kernel
theorem dX8_where_32 : decode cX8_where 32 = .ok (.if_icmp .ge 66, 3) := by decide +kernel
theorem dX8_where_35 : decode cX8_where 35 = .ok (.aload_n 0, 1) := by decide +kernel
theorem dX8_where_36 : decode cX8_where 36 = .ok (.iload 6, 2) := by decide +kernel
theorem dX8_where_38 : decode cX8_where 38 = .ok (.invokevirtual 265, 3) := by decide +kernel
theorem dX8_where_41 : decode cX8_where 41 = .ok (.iconst 1, 1) := by decide +kernel
theorem dX8_where_42 : decode cX8_where 42 = .ok (.iadd, 1) := by decide +kernel
theorem dX8_where_43 : decode cX8_where 43 = .ok (.istore 7, 2) := by decide +kernel
theorem dX8_where_45 : decode cX8_where 45 = .ok (.iload 7, 2) := by decide +kernel
theorem dX8_where_47 : decode cX8_where 47 = .ok (.aload_n 0, 1) := by decide +kernel
theorem dX8_where_48 : decode cX8_where 48 = .ok (.iload 6, 2) := by decide +kernel
theorem dX8_where_50 : decode cX8_where 50 = .ok (.invokevirtual 217, 3) := by decide +kernel
theorem dX8_where_53 : decode cX8_where 53 = .ok (.if_icmp .gt 39, 3) := by decide +kernel
theorem dX8_where_56 : decode cX8_where 56 = .ok (.aload_n 0, 1) := by decide +kernel
theorem dX8_where_57 : decode cX8_where 57 = .ok (.iload 6, 2) := by decide +kernel
theorem dX8_where_59 : decode cX8_where 59 = .ok (.iload 7, 2) := by decide +kernel
theorem dX8_where_61 : decode cX8_where 61 = .ok (.iload_n 1, 1) := by decide +kernel
theorem dX8_where_62 : decode cX8_where 62 = .ok (.invokevirtual 365, 3) := by decide +kernel
theorem dX8_where_65 : decode cX8_where 65 = .ok (.ifCond .ne 6, 3) := by decide +kernel
theorem dX8_where_68 : decode cX8_where 68 = .ok (.goto 18, 3) := by decide +kernel
theorem dX8_where_71 : decode cX8_where 71 = .ok (.iload_n 3, 1) := by decide +kernel
theorem dX8_where_72 : decode cX8_where 72 = .ok (.ifCond .ne 11, 3) := by decide +kernel
theorem dX8_where_75 : decode cX8_where 75 = .ok (.iload 6, 2) := by decide +kernel
theorem dX8_where_77 : decode cX8_where 77 = .ok (.istore 4, 2) := by decide +kernel
theorem dX8_where_79 : decode cX8_where 79 = .ok (.iload 7, 2) := by decide +kernel
theorem dX8_where_81 : decode cX8_where 81 = .ok (.istore 5, 2) := by decide +kernel
theorem dX8_where_83 : decode cX8_where 83 = .ok (.iinc 3 1, 3) := by decide +kernel
theorem dX8_where_86 : decode cX8_where 86 = .ok (.iinc 7 1, 3) := by decide +kernel
theorem dX8_where_89 : decode cX8_where 89 = .ok (.goto (-44), 3) := by decide +kernel
theorem dX8_where_92 : decode cX8_where 92 = .ok (.iinc 6 1, 3) := by decide +kernel
theorem dX8_where_95 : decode cX8_where 95 = .ok (.goto (-71), 3) := by decide +kernel
theorem dX8_where_98 : decode cX8_where 98 = .ok (.iload_n 2, 1) := by decide +kernel
theorem dX8_where_99 : decode cX8_where 99 = .ok (.ifCond .ne 7, 3) := by decide +kernel
theorem dX8_where_102 : decode cX8_where 102 = .ok (.iload_n 3, 1) := by decide +kernel
theorem dX8_where_103 : decode cX8_where 103 = .ok (.goto 15, 3) := by decide +kernel
theorem dX8_where_106 : decode cX8_where 106 = .ok (.iload_n 2, 1) := by decide +kernel
theorem dX8_where_107 : decode cX8_where 107 = .ok (.iconst 1, 1) := by decide +kernel
theorem dX8_where_108 : decode cX8_where 108 = .ok (.if_icmp .ne 8, 3) := by decide +kernel
theorem dX8_where_111 : decode cX8_where 111 = .ok (.iload 4, 2) := by decide +kernel
theorem dX8_where_113 : decode cX8_where 113 = .ok (.goto 5, 3) := by decide +kernel
theorem dX8_where_116 : decode cX8_where 116 = .ok (.iload 5, 2) := by decide +kernel
theorem dX8_where_118 : decode cX8_where 118 = .ok (.ireturn, 1) := by decide +kernel
theorem dX8_busiest_0 : decode cX8_busiest 0 = .ok (.aload_n 0, 1) := by decide +kernel
theorem dX8_busiest_1 : decode cX8_busiest 1 = .ok (.iload_n 1, 1) := by decide +kernel
theorem dX8_busiest_2 : decode cX8_busiest 2 = .ok (.invokevirtual 262, 3) := by decide +kernel
theorem dX8_busiest_5 : decode cX8_busiest 5 = .ok (.ifCond .eq 12, 3) := by decide +kernel
theorem dX8_busiest_8 : decode cX8_busiest 8 = .ok (.iload_n 2, 1) := by decide +kernel
theorem dX8_busiest_9 : decode cX8_busiest 9 = .ok (.iconst 0, 1) := by decide +kernel
theorem dX8_busiest_10 : decode cX8_busiest 10 = .ok (.iconst 1, 1) := by decide +kernel
theorem dX8_busiest_11 : decode cX8_busiest 11 = .ok (.invokestatic 194, 3) := by decide +kernel
theorem dX8_busiest_14 : decode cX8_busiest 14 = .ok (.ifCond .ne 5, 3) := by decide +kernel
theorem dX8_busiest_17 : decode cX8_busiest 17 = .ok (.iconst (-1), 1) := by decide +kernel
theorem dX8_busiest_18 : decode cX8_busiest 18 = .ok (.ireturn, 1) := by decide +kernel
theorem dX8_busiest_19 : decode cX8_busiest 19 = .ok (.iconst 0, 1) := by decide +kernel
theorem dX8_busiest_20 : decode cX8_busiest 20 = .ok (.istore_n 3, 1) := by decide +kernel
theorem dX8_busiest_21 : decode cX8_busiest 21 = .ok (.iload_n 3, 1) := by decide +kernel
theorem dX8_busiest_22 : decode cX8_busiest 22 = .ok (.bipush 8, 2) := by decide +kernel
theorem dX8_busiest_24 : decode cX8_busiest 24 = .ok (.if_icmp .ge 16, 3) := by decide +kernel
theorem dX8_busiest_27 : decode cX8_busiest 27 = .ok (.aload_n 0, 1) := by decide +kernel
theorem dX8_busiest_28 : decode cX8_busiest 28 = .ok (.getfield 76, 3) := by decide +kernel
theorem dX8_busiest_31 : decode cX8_busiest 31 = .ok (.iload_n 3, 1) := by decide +kernel
theorem dX8_busiest_32 : decode cX8_busiest 32 = .ok (.iconst 0, 1) := by decide +kernel
theorem dX8_busiest_33 : decode cX8_busiest 33 = .ok (.iastore, 1) := by decide +kernel
theorem dX8_busiest_34 : decode cX8_busiest 34 = .ok (.iinc 3 1, 3) := by decide +kernel
theorem dX8_busiest_37 : decode cX8_busiest 37 = .ok (.goto (-16), 3) := by decide +kernel
theorem dX8_busiest_40 : decode cX8_busiest 40 = .ok (.iconst 1, 1) := by decide +kernel
theorem dX8_busiest_41 : decode cX8_busiest 41 = .ok (.istore_n 3, 1) := by decide +kernel
theorem dX8_busiest_42 : decode cX8_busiest 42 = .ok (.iload_n 3, 1) := by decide +kernel
theorem dX8_busiest_43 : decode cX8_busiest 43 = .ok (.aload_n 0, 1) := by decide +kernel
theorem dX8_busiest_44 : decode cX8_busiest 44 = .ok (.iload_n 1, 1) := by decide +kernel
theorem dX8_busiest_45 : decode cX8_busiest 45 = .ok (.invokevirtual 217, 3) := by decide +kernel
theorem dX8_busiest_48 : decode cX8_busiest 48 = .ok (.if_icmp .gt 33, 3) := by decide +kernel
theorem dX8_busiest_51 : decode cX8_busiest 51 = .ok (.aload_n 0, 1) := by decide +kernel
theorem dX8_busiest_52 : decode cX8_busiest 52 = .ok (.iload_n 1, 1) := by decide +kernel
theorem dX8_busiest_53 : decode cX8_busiest 53 = .ok (.iload_n 3, 1) := by decide +kernel
theorem dX8_busiest_54 : decode cX8_busiest 54 = .ok (.invokevirtual 283, 3) := by decide +kernel
theorem dX8_busiest_57 : decode cX8_busiest 57 = .ok (.ifCond .lt 18, 3) := by decide +kernel
theorem dX8_busiest_60 : decode cX8_busiest 60 = .ok (.aload_n 0, 1) := by decide +kernel
theorem dX8_busiest_61 : decode cX8_busiest 61 = .ok (.getfield 76, 3) := by decide +kernel
theorem dX8_busiest_64 : decode cX8_busiest 64 = .ok (.aload_n 0, 1) := by decide +kernel
theorem dX8_busiest_65 : decode cX8_busiest 65 = .ok (.iload_n 1, 1) := by decide +kernel
theorem dX8_busiest_66 : decode cX8_busiest 66 = .ok (.iload_n 3, 1) := by decide +kernel
theorem dX8_busiest_67 : decode cX8_busiest 67 = .ok (.invokevirtual 283, 3) := by decide +kernel
theorem dX8_busiest_70 : decode cX8_busiest 70 = .ok (.dup2, 1) := by decide +kernel
theorem dX8_busiest_71 : decode cX8_busiest 71 = .ok (.iaload, 1) := by decide +kernel
theorem dX8_busiest_72 : decode cX8_busiest 72 = .ok (.iconst 1, 1) := by decide +kernel
theorem dX8_busiest_73 : decode cX8_busiest 73 = .ok (.iadd, 1) := by decide +kernel
theorem dX8_busiest_74 : decode cX8_busiest 74 = .ok (.iastore, 1) := by decide +kernel
theorem dX8_busiest_75 : decode cX8_busiest 75 = .ok (.iinc 3 1, 3) := by decide +kernel
theorem dX8_busiest_78 : decode cX8_busiest 78 = .ok (.goto (-36), 3) := by decide +kernel
theorem dX8_busiest_81 : decode cX8_busiest 81 = .ok (.iconst 0, 1) := by decide +kernel
theorem dX8_busiest_82 : decode cX8_busiest 82 = .ok (.istore_n 3, 1) := by decide +kernel
theorem dX8_busiest_83 : decode cX8_busiest 83 = .ok (.iconst 1, 1) := by decide +kernel
theorem dX8_busiest_84 : decode cX8_busiest 84 = .ok (.istore 4, 2) := by decide +kernel
theorem dX8_busiest_86 : decode cX8_busiest 86 = .ok (.iload 4, 2) := by decide +kernel
theorem dX8_busiest_88 : decode cX8_busiest 88 = .ok (.aload_n 0, 1) := by decide +kernel
theorem dX8_busiest_89 : decode cX8_busiest 89 = .ok (.getfield 73, 3) := by decide +kernel
theorem dX8_busiest_92 : decode cX8_busiest 92 = .ok (.iconst 0, 1) := by decide +kernel
theorem dX8_busiest_93 : decode cX8_busiest 93 = .ok (.iaload, 1) := by decide +kernel
theorem dX8_busiest_94 : decode cX8_busiest 94 = .ok (.if_icmp .ge 28, 3) := by decide +kernel
theorem dX8_busiest_97 : decode cX8_busiest 97 = .ok (.aload_n 0, 1) := by decide +kernel
theorem dX8_busiest_98 : decode cX8_busiest 98 = .ok (.getfield 76, 3) := by decide +kernel
theorem dX8_busiest_101 : decode cX8_busiest 101 = .ok (.iload 4, 2) := by decide +kernel
theorem dX8_busiest_103 : decode cX8_busiest 103 = .ok (.iaload, 1) := by decide +kernel
theorem dX8_busiest_104 : decode cX8_busiest 104 = .ok (.aload_n 0, 1) := by decide +kernel
theorem dX8_busiest_105 : decode cX8_busiest 105 = .ok (.getfield 76, 3) := by decide +kernel
theorem dX8_busiest_108 : decode cX8_busiest 108 = .ok (.iload_n 3, 1) := by decide +kernel
theorem dX8_busiest_109 : decode cX8_busiest 109 = .ok (.iaload, 1) := by decide +kernel
theorem dX8_busiest_110 : decode cX8_busiest 110 = .ok (.if_icmp .le 6, 3) := by decide +kernel
theorem dX8_busiest_113 : decode cX8_busiest 113 = .ok (.iload 4, 2) := by decide +kernel
theorem dX8_busiest_115 : decode cX8_busiest 115 = .ok (.istore_n 3, 1) := by decide +kernel
theorem dX8_busiest_116 : decode cX8_busiest 116 = .ok (.iinc 4 1, 3) := by decide +kernel
theorem dX8_busiest_119 : decode cX8_busiest 119 = .ok (.goto (-33), 3) := by decide +kernel
theorem dX8_busiest_122 : decode cX8_busiest 122 = .ok (.iload_n 2, 1) := by decide +kernel
theorem dX8_busiest_123 : decode cX8_busiest 123 = .ok (.ifCond .ne 7, 3) := by decide +kernel
theorem dX8_busiest_126 : decode cX8_busiest 126 = .ok (.iload_n 3, 1) := by decide +kernel
theorem dX8_busiest_127 : decode cX8_busiest 127 = .ok (.goto 9, 3) := by decide +kernel
theorem dX8_busiest_130 : decode cX8_busiest 130 = .ok (.aload_n 0, 1) := by decide +kernel
theorem dX8_busiest_131 : decode cX8_busiest 131 = .ok (.getfield 76, 3) := by decide +kernel
theorem dX8_busiest_134 : decode cX8_busiest 134 = .ok (.iload_n 3, 1) := by decide +kernel
theorem dX8_busiest_135 : decode cX8_busiest 135 = .ok (.iaload, 1) := by decide +kernel
theorem dX8_busiest_136 : decode cX8_busiest 136 = .ok (.ireturn, 1) := by decide +kernel
theorem dX8_common_0 : decode cX8_common 0 = .ok (.aload_n 0, 1) := by decide +kernel
theorem dX8_common_1 : decode cX8_common 1 = .ok (.iload_n 1, 1) := by decide +kernel
theorem dX8_common_2 : decode cX8_common 2 = .ok (.invokevirtual 262, 3) := by decide +kernel
theorem dX8_common_5 : decode cX8_common 5 = .ok (.ifCond .eq 11, 3) := by decide +kernel
theorem dX8_common_8 : decode cX8_common 8 = .ok (.aload_n 0, 1) := by decide +kernel
theorem dX8_common_9 : decode cX8_common 9 = .ok (.iload_n 2, 1) := by decide +kernel
theorem dX8_common_10 : decode cX8_common 10 = .ok (.invokevirtual 262, 3) := by decide +kernel
theorem dX8_common_13 : decode cX8_common 13 = .ok (.ifCond .ne 5, 3) := by decide +kernel
theorem dX8_common_16 : decode cX8_common 16 = .ok (.iconst (-1), 1) := by decide +kernel
theorem dX8_common_17 : decode cX8_common 17 = .ok (.ireturn, 1) := by decide +kernel
theorem dX8_common_18 : decode cX8_common 18 = .ok (.aload_n 0, 1) := by decide +kernel
theorem dX8_common_19 : decode cX8_common 19 = .ok (.iload_n 1, 1) := by decide +kernel
theorem dX8_common_20 : decode cX8_common 20 = .ok (.invokevirtual 217, 3) := by decide +kernel
theorem dX8_common_23 : decode cX8_common 23 = .ok (.aload_n 0, 1) := by decide +kernel
theorem dX8_common_24 : decode cX8_common 24 = .ok (.iload_n 2, 1) := by decide +kernel
theorem dX8_common_25 : decode cX8_common 25 = .ok (.invokevirtual 217, 3) := by decide +kernel
theorem dX8_common_28 : decode cX8_common 28 = .ok (.if_icmp .ge 11, 3) := by decide +kernel
theorem dX8_common_31 : decode cX8_common 31 = .ok (.aload_n 0, 1) := by decide +kernel
theorem dX8_common_32 : decode cX8_common 32 = .ok (.iload_n 1, 1) := by decide +kernel
theorem dX8_common_33 : decode cX8_common 33 = .ok (.invokevirtual 217, 3) := by decide +kernel
theorem dX8_common_36 : decode cX8_common 36 = .ok (.goto 8, 3) := by decide +kernel
theorem dX8_common_39 : decode cX8_common 39 = .ok (.aload_n 0, 1) := by decide +kernel
theorem dX8_common_40 : decode cX8_common 40 = .ok (.iload_n 2, 1) := by decide +kernel
theorem dX8_common_41 : decode cX8_common 41 = .ok (.invokevirtual 217, 3) := by decide +kernel
theorem dX8_common_44 : decode cX8_common 44 = .ok (.istore_n 3, 1) := by decide +kernel
theorem dX8_common_45 : decode cX8_common 45 = .ok (.iconst 0, 1) := by decide +kernel
theorem dX8_common_46 : decode cX8_common 46 = .ok (.istore 4, 2) := by decide +kernel
theorem dX8_common_48 : decode cX8_common 48 = .ok (.iload 4, 2) := by decide +kernel
theorem dX8_common_50 : decode cX8_common 50 = .ok (.iload_n 3, 1) := by decide +kernel
theorem dX8_common_51 : decode cX8_common 51 = .ok (.if_icmp .ge 30, 3) := by decide +kernel
theorem dX8_common_54 : decode cX8_common 54 = .ok (.aload_n 0, 1) := by decide +kernel
theorem dX8_common_55 : decode cX8_common 55 = .ok (.iload_n 1, 1) := by decide +kernel
theorem dX8_common_56 : decode cX8_common 56 = .ok (.iload 4, 2) := by decide +kernel
theorem dX8_common_58 : decode cX8_common 58 = .ok (.iconst 1, 1) := by decide +kernel
theorem dX8_common_59 : decode cX8_common 59 = .ok (.iadd, 1) := by decide +kernel
theorem dX8_common_60 : decode cX8_common 60 = .ok (.invokevirtual 271, 3) := by decide +kernel
theorem dX8_common_63 : decode cX8_common 63 = .ok (.aload_n 0, 1) := by decide +kernel
theorem dX8_common_64 : decode cX8_common 64 = .ok (.iload_n 2, 1) := by decide +kernel
theorem dX8_common_65 : decode cX8_common 65 = .ok (.iload 4, 2) := by decide +kernel
theorem dX8_common_67 : decode cX8_common 67 = .ok (.iconst 1, 1) := by decide +kernel
theorem dX8_common_68 : decode cX8_common 68 = .ok (.iadd, 1) := by decide +kernel
theorem dX8_common_69 : decode cX8_common 69 = .ok (.invokevirtual 271, 3) := by decide +kernel
theorem dX8_common_72 : decode cX8_common 72 = .ok (.if_icmp .ne 9, 3) := by decide +kernel
theorem dX8_common_75 : decode cX8_common 75 = .ok (.iinc 4 1, 3) := by decide +kernel
theorem dX8_common_78 : decode cX8_common 78 = .ok (.goto (-30), 3) := by decide +kernel
theorem dX8_common_81 : decode cX8_common 81 = .ok (.iload 4, 2) := by decide +kernel
theorem dX8_common_83 : decode cX8_common 83 = .ok (.ireturn, 1) := by decide +kernel
theorem dX8_differ_0 : decode cX8_differ 0 = .ok (.aload_n 0, 1) := by decide +kernel
theorem dX8_differ_1 : decode cX8_differ 1 = .ok (.iload_n 1, 1) := by decide +kernel
theorem dX8_differ_2 : decode cX8_differ 2 = .ok (.iload_n 2, 1) := by decide +kernel
theorem dX8_differ_3 : decode cX8_differ 3 = .ok (.invokevirtual 304, 3) := by decide +kernel
theorem dX8_differ_6 : decode cX8_differ 6 = .ok (.ifCond .eq 13, 3) := by decide +kernel
theorem dX8_differ_9 : decode cX8_differ 9 = .ok (.aload_n 0, 1) := by decide +kernel
theorem dX8_differ_10 : decode cX8_differ 10 = .ok (.iload_n 3, 1) := by decide +kernel
theorem dX8_differ_11 : decode cX8_differ 11 = .ok (.iload 4, 2) := by decide +kernel
theorem dX8_differ_13 : decode cX8_differ 13 = .ok (.invokevirtual 304, 3) := by decide +kernel
theorem dX8_differ_16 : decode cX8_differ 16 = .ok (.ifCond .ne 5, 3) := by decide +kernel
theorem dX8_differ_19 : decode cX8_differ 19 = .ok (.iconst (-1), 1) := by decide +kernel
theorem dX8_differ_20 : decode cX8_differ 20 = .ok (.ireturn, 1) := by decide +kernel
theorem dX8_differ_21 : decode cX8_differ 21 = .ok (.iconst 0, 1) := by decide +kernel
theorem dX8_differ_22 : decode cX8_differ 22 = .ok (.istore 5, 2) := by decide +kernel
theorem dX8_differ_24 : decode cX8_differ 24 = .ok (.iconst 0, 1) := by decide +kernel
theorem dX8_differ_25 : decode cX8_differ 25 = .ok (.istore 6, 2) := by decide +kernel
theorem dX8_differ_27 : decode cX8_differ 27 = .ok (.iload 6, 2) := by decide +kernel
theorem dX8_differ_29 : decode cX8_differ 29 = .ok (.aload_n 0, 1) := by decide +kernel
theorem dX8_differ_30 : decode cX8_differ 30 = .ok (.getfield 73, 3) := by decide +kernel
theorem dX8_differ_33 : decode cX8_differ 33 = .ok (.iconst 0, 1) := by decide +kernel
theorem dX8_differ_34 : decode cX8_differ 34 = .ok (.iaload, 1) := by decide +kernel
theorem dX8_differ_35 : decode cX8_differ 35 = .ok (.if_icmp .ge 38, 3) := by decide +kernel
theorem dX8_differ_38 : decode cX8_differ 38 = .ok (.aload_n 0, 1) := by decide +kernel
theorem dX8_differ_39 : decode cX8_differ 39 = .ok (.iload 6, 2) := by decide +kernel
theorem dX8_differ_41 : decode cX8_differ 41 = .ok (.iload_n 1, 1) := by decide +kernel
theorem dX8_differ_42 : decode cX8_differ 42 = .ok (.iload_n 2, 1) := by decide +kernel
theorem dX8_differ_43 : decode cX8_differ 43 = .ok (.invokevirtual 343, 3) := by decide +kernel
theorem dX8_differ_46 : decode cX8_differ 46 = .ok (.aload_n 0, 1) := by decide +kernel
theorem dX8_differ_47 : decode cX8_differ 47 = .ok (.iload 6, 2) := by decide +kernel
theorem dX8_differ_49 : decode cX8_differ 49 = .ok (.iload_n 3, 1) := by decide +kernel
theorem dX8_differ_50 : decode cX8_differ 50 = .ok (.iload 4, 2) := by decide +kernel
theorem dX8_differ_52 : decode cX8_differ 52 = .ok (.invokevirtual 343, 3) := by decide +kernel
theorem dX8_differ_55 : decode cX8_differ 55 = .ok (.if_icmp .eq 12, 3) := by decide +kernel
theorem dX8_differ_58 : decode cX8_differ 58 = .ok (.iload 5, 2) := by decide +kernel
theorem dX8_differ_60 : decode cX8_differ 60 = .ok (.iconst 1, 1) := by decide +kernel
theorem dX8_differ_61 : decode cX8_differ 61 = .ok (.iload 6, 2) := by decide +kernel
theorem dX8_differ_63 : decode cX8_differ 63 = .ok (.ishl, 1) := by decide +kernel
theorem dX8_differ_64 : decode cX8_differ 64 = .ok (.ior, 1) := by decide +kernel
theorem dX8_differ_65 : decode cX8_differ 65 = .ok (.istore 5, 2) := by decide +kernel
theorem dX8_differ_67 : decode cX8_differ 67 = .ok (.iinc 6 1, 3) := by decide +kernel
theorem dX8_differ_70 : decode cX8_differ 70 = .ok (.goto (-43), 3) := by decide +kernel
theorem dX8_differ_73 : decode cX8_differ 73 = .ok (.iload 5, 2) := by decide +kernel
theorem dX8_differ_75 : decode cX8_differ 75 = .ok (.ireturn, 1) := by decide +kernel
theorem dX8_gaps_0 : decode cX8_gaps 0 = .ok (.aload_n 0, 1) := by decide +kernel
theorem dX8_gaps_1 : decode cX8_gaps 1 = .ok (.iload_n 1, 1) := by decide +kernel
theorem dX8_gaps_2 : decode cX8_gaps 2 = .ok (.invokevirtual 262, 3) := by decide +kernel
theorem dX8_gaps_5 : decode cX8_gaps 5 = .ok (.ifCond .eq 12, 3) := by decide +kernel
theorem dX8_gaps_8 : decode cX8_gaps 8 = .ok (.iload_n 2, 1) := by decide +kernel
theorem dX8_gaps_9 : decode cX8_gaps 9 = .ok (.iconst 0, 1) := by decide +kernel
theorem dX8_gaps_10 : decode cX8_gaps 10 = .ok (.iconst 1, 1) := by decide +kernel
theorem dX8_gaps_11 : decode cX8_gaps 11 = .ok (.invokestatic 194, 3) := by decide +kernel
theorem dX8_gaps_14 : decode cX8_gaps 14 = .ok (.ifCond .ne 5, 3) := by decide +kernel
theorem dX8_gaps_17 : decode cX8_gaps 17 = .ok (.iconst (-1), 1) := by decide +kernel
theorem dX8_gaps_18 : decode cX8_gaps 18 = .ok (.ireturn, 1) := by decide +kernel
theorem dX8_gaps_19 : decode cX8_gaps 19 = .ok (.iconst 0, 1) := by decide +kernel
theorem dX8_gaps_20 : decode cX8_gaps 20 = .ok (.istore_n 3, 1) := by decide +kernel
theorem dX8_gaps_21 : decode cX8_gaps 21 = .ok (.bipush (-2), 2) := by decide +kernel
theorem dX8_gaps_23 : decode cX8_gaps 23 = .ok (.istore 4, 2) := by decide +kernel
theorem dX8_gaps_25 : decode cX8_gaps 25 = .ok (.iconst 0, 1) := by decide +kernel
theorem dX8_gaps_26 : decode cX8_gaps 26 = .ok (.istore 5, 2) := by decide +kernel
theorem dX8_gaps_28 : decode cX8_gaps 28 = .ok (.iload 5, 2) := by decide +kernel
theorem dX8_gaps_30 : decode cX8_gaps 30 = .ok (.aload_n 0, 1) := by decide +kernel
theorem dX8_gaps_31 : decode cX8_gaps 31 = .ok (.getfield 73, 3) := by decide +kernel
theorem dX8_gaps_34 : decode cX8_gaps 34 = .ok (.iconst 1, 1) := by decide +kernel
theorem dX8_gaps_35 : decode cX8_gaps 35 = .ok (.iaload, 1) := by decide +kernel
theorem dX8_gaps_36 : decode cX8_gaps 36 = .ok (.imul, 1) := by decide +kernel
theorem dX8_gaps_37 : decode cX8_gaps 37 = .ok (.aload_n 0, 1) := by decide +kernel
theorem dX8_gaps_38 : decode cX8_gaps 38 = .ok (.iload_n 1, 1) := by decide +kernel
theorem dX8_gaps_39 : decode cX8_gaps 39 = .ok (.invokevirtual 217, 3) := by decide +kernel
theorem dX8_gaps_42 : decode cX8_gaps 42 = .ok (.if_icmp .ge 39, 3) := by decide +kernel
theorem dX8_gaps_45 : decode cX8_gaps 45 = .ok (.aload_n 0, 1) := by decide +kernel
theorem dX8_gaps_46 : decode cX8_gaps 46 = .ok (.aload_n 0, 1) := by decide +kernel
theorem dX8_gaps_47 : decode cX8_gaps 47 = .ok (.iload_n 1, 1) := by decide +kernel
theorem dX8_gaps_48 : decode cX8_gaps 48 = .ok (.iload 5, 2) := by decide +kernel
theorem dX8_gaps_50 : decode cX8_gaps 50 = .ok (.invokevirtual 322, 3) := by decide +kernel
theorem dX8_gaps_53 : decode cX8_gaps 53 = .ok (.iload 5, 2) := by decide +kernel
theorem dX8_gaps_55 : decode cX8_gaps 55 = .ok (.invokevirtual 331, 3) := by decide +kernel
theorem dX8_gaps_58 : decode cX8_gaps 58 = .ok (.ifCond .eq 6, 3) := by decide +kernel
theorem dX8_gaps_61 : decode cX8_gaps 61 = .ok (.goto 14, 3) := by decide +kernel
theorem dX8_gaps_64 : decode cX8_gaps 64 = .ok (.iload_n 3, 1) := by decide +kernel
theorem dX8_gaps_65 : decode cX8_gaps 65 = .ok (.ifCond .ne 7, 3) := by decide +kernel
theorem dX8_gaps_68 : decode cX8_gaps 68 = .ok (.iload 5, 2) := by decide +kernel
theorem dX8_gaps_70 : decode cX8_gaps 70 = .ok (.istore 4, 2) := by decide +kernel
theorem dX8_gaps_72 : decode cX8_gaps 72 = .ok (.iinc 3 1, 3) := by decide +kernel
theorem dX8_gaps_75 : decode cX8_gaps 75 = .ok (.iinc 5 1, 3) := by decide +kernel
theorem dX8_gaps_78 : decode cX8_gaps 78 = .ok (.goto (-50), 3) := by decide +kernel
theorem dX8_gaps_81 : decode cX8_gaps 81 = .ok (.iload_n 2, 1) := by decide +kernel
theorem dX8_gaps_82 : decode cX8_gaps 82 = .ok (.ifCond .ne 7, 3) := by decide +kernel
theorem dX8_gaps_85 : decode cX8_gaps 85 = .ok (.iload_n 3, 1) := by decide +kernel
theorem dX8_gaps_86 : decode cX8_gaps 86 = .ok (.goto 5, 3) := by decide +kernel
theorem dX8_gaps_89 : decode cX8_gaps 89 = .ok (.iload 4, 2) := by decide +kernel
theorem dX8_gaps_91 : decode cX8_gaps 91 = .ok (.ireturn, 1) := by decide +kernel
theorem dX8_pagesOf_0 : decode cX8_pagesOf 0 = .ok (.iconst 0, 1) := by decide +kernel
theorem dX8_pagesOf_1 : decode cX8_pagesOf 1 = .ok (.istore_n 3, 1) := by decide +kernel
theorem dX8_pagesOf_2 : decode cX8_pagesOf 2 = .ok (.iconst 0, 1) := by decide +kernel
theorem dX8_pagesOf_3 : decode cX8_pagesOf 3 = .ok (.istore 4, 2) := by decide +kernel
theorem dX8_pagesOf_5 : decode cX8_pagesOf 5 = .ok (.iload 4, 2) := by decide +kernel
theorem dX8_pagesOf_7 : decode cX8_pagesOf 7 = .ok (.aload_n 0, 1) := by decide +kernel
theorem dX8_pagesOf_8 : decode cX8_pagesOf 8 = .ok (.getfield 73, 3) := by decide +kernel
theorem dX8_pagesOf_11 : decode cX8_pagesOf 11 = .ok (.iconst 0, 1) := by decide +kernel
theorem dX8_pagesOf_12 : decode cX8_pagesOf 12 = .ok (.iaload, 1) := by decide +kernel
theorem dX8_pagesOf_13 : decode cX8_pagesOf 13 = .ok (.if_icmp .ge 54, 3) := by decide +kernel
theorem dX8_pagesOf_16 : decode cX8_pagesOf 16 = .ok (.iload_n 2, 1) := by decide +kernel
theorem dX8_pagesOf_17 : decode cX8_pagesOf 17 = .ok (.ifCond .eq 27, 3) := by decide +kernel
theorem dX8_pagesOf_20 : decode cX8_pagesOf 20 = .ok (.aload_n 0, 1) := by decide +kernel
theorem dX8_pagesOf_21 : decode cX8_pagesOf 21 = .ok (.getfield 73, 3) := by decide +kernel
theorem dX8_pagesOf_24 : decode cX8_pagesOf 24 = .ok (.bipush 100, 2) := by decide +kernel
theorem dX8_pagesOf_26 : decode cX8_pagesOf 26 = .ok (.iconst 4, 1) := by decide +kernel
theorem dX8_pagesOf_27 : decode cX8_pagesOf 27 = .ok (.bipush 8, 2) := by decide +kernel
theorem dX8_pagesOf_29 : decode cX8_pagesOf 29 = .ok (.iload_n 1, 1) := by decide +kernel
theorem dX8_pagesOf_30 : decode cX8_pagesOf 30 = .ok (.imul, 1) := by decide +kernel
theorem dX8_pagesOf_31 : decode cX8_pagesOf 31 = .ok (.iload 4, 2) := by decide +kernel
theorem dX8_pagesOf_33 : decode cX8_pagesOf 33 = .ok (.iadd, 1) := by decide +kernel
theorem dX8_pagesOf_34 : decode cX8_pagesOf 34 = .ok (.imul, 1) := by decide +kernel
theorem dX8_pagesOf_35 : decode cX8_pagesOf 35 = .ok (.iadd, 1) := by decide +kernel
theorem dX8_pagesOf_36 : decode cX8_pagesOf 36 = .ok (.iaload, 1) := by decide +kernel
theorem dX8_pagesOf_37 : decode cX8_pagesOf 37 = .ok (.iconst 1, 1) := by decide +kernel
theorem dX8_pagesOf_38 : decode cX8_pagesOf 38 = .ok (.if_icmp .ne 23, 3) := by decide +kernel
theorem dX8_pagesOf_41 : decode cX8_pagesOf 41 = .ok (.goto 13, 3) := by decide +kernel
theorem dX8_pagesOf_44 : decode cX8_pagesOf 44 = .ok (.aload_n 0, 1) := by decide +kernel
theorem dX8_pagesOf_45 : decode cX8_pagesOf 45 = .ok (.iload_n 1, 1) := by decide +kernel
theorem dX8_pagesOf_46 : decode cX8_pagesOf 46 = .ok (.iload 4, 2) := by decide +kernel
theorem dX8_pagesOf_48 : decode cX8_pagesOf 48 = .ok (.invokevirtual 289, 3) := by decide +kernel
theorem dX8_pagesOf_51 : decode cX8_pagesOf 51 = .ok (.ifCond .lt 10, 3) := by decide +kernel
theorem dX8_pagesOf_54 : decode cX8_pagesOf 54 = .ok (.iload_n 3, 1) := by decide +kernel
theorem dX8_pagesOf_55 : decode cX8_pagesOf 55 = .ok (.iconst 1, 1) := by decide +kernel
theorem dX8_pagesOf_56 : decode cX8_pagesOf 56 = .ok (.iload 4, 2) := by decide +kernel
theorem dX8_pagesOf_58 : decode cX8_pagesOf 58 = .ok (.ishl, 1) := by decide +kernel
theorem dX8_pagesOf_59 : decode cX8_pagesOf 59 = .ok (.ior, 1) := by decide +kernel
theorem dX8_pagesOf_60 : decode cX8_pagesOf 60 = .ok (.istore_n 3, 1) := by decide +kernel
theorem dX8_pagesOf_61 : decode cX8_pagesOf 61 = .ok (.iinc 4 1, 3) := by decide +kernel
theorem dX8_pagesOf_64 : decode cX8_pagesOf 64 = .ok (.goto (-59), 3) := by decide +kernel
theorem dX8_pagesOf_67 : decode cX8_pagesOf 67 = .ok (.iload_n 3, 1) := by decide +kernel
theorem dX8_pagesOf_68 : decode cX8_pagesOf 68 = .ok (.ireturn, 1) := by decide +kernel
theorem dX8_chainOf_0 : decode cX8_chainOf 0 = .ok (.iconst 0, 1) := by decide +kernel
theorem dX8_chainOf_1 : decode cX8_chainOf 1 = .ok (.istore_n 2, 1) := by decide +kernel
theorem dX8_chainOf_2 : decode cX8_chainOf 2 = .ok (.iload_n 1, 1) := by decide +kernel
theorem dX8_chainOf_3 : decode cX8_chainOf 3 = .ok (.istore_n 3, 1) := by decide +kernel
theorem dX8_chainOf_4 : decode cX8_chainOf 4 = .ok (.iload_n 3, 1) := by decide +kernel
theorem dX8_chainOf_5 : decode cX8_chainOf 5 = .ok (.ifCond .lt 16, 3) := by decide +kernel
theorem dX8_chainOf_8 : decode cX8_chainOf 8 = .ok (.iinc 2 1, 3) := by decide +kernel
theorem dX8_chainOf_11 : decode cX8_chainOf 11 = .ok (.aload_n 0, 1) := by decide +kernel
theorem dX8_chainOf_12 : decode cX8_chainOf 12 = .ok (.iload_n 3, 1) := by decide +kernel
theorem dX8_chainOf_13 : decode cX8_chainOf 13 = .ok (.iconst 1, 1) := by decide +kernel
theorem dX8_chainOf_14 : decode cX8_chainOf 14 = .ok (.invokevirtual 286, 3) := by decide +kernel
theorem dX8_chainOf_17 : decode cX8_chainOf 17 = .ok (.istore_n 3, 1) := by decide +kernel
theorem dX8_chainOf_18 : decode cX8_chainOf 18 = .ok (.goto (-14), 3) := by decide +kernel
theorem dX8_chainOf_21 : decode cX8_chainOf 21 = .ok (.iload_n 2, 1) := by decide +kernel
theorem dX8_chainOf_22 : decode cX8_chainOf 22 = .ok (.ireturn, 1) := by decide +kernel
theorem dX8_made_0 : decode cX8_made 0 = .ok (.aload_n 0, 1) := by decide +kernel
theorem dX8_made_1 : decode cX8_made 1 = .ok (.iload_n 1, 1) := by decide +kernel
theorem dX8_made_2 : decode cX8_made 2 = .ok (.invokevirtual 301, 3) := by decide +kernel
theorem dX8_made_5 : decode cX8_made 5 = .ok (.ifCond .ne 5, 3) := by decide +kernel
theorem dX8_made_8 : decode cX8_made 8 = .ok (.iconst (-1), 1) := by decide +kernel
theorem dX8_made_9 : decode cX8_made 9 = .ok (.ireturn, 1) := by decide +kernel
theorem dX8_made_10 : decode cX8_made 10 = .ok (.iload_n 2, 1) := by decide +kernel
theorem dX8_made_11 : decode cX8_made 11 = .ok (.tableswitch 93 0 7 #[45, 45, 45, 52, 59, 66, 80, 86], 45) := by decide +kernel
theorem dX8_made_56 : decode cX8_made 56 = .ok (.aload_n 0, 1) := by decide +kernel
theorem dX8_made_57 : decode cX8_made 57 = .ok (.iload_n 1, 1) := by decide +kernel
theorem dX8_made_58 : decode cX8_made 58 = .ok (.iload_n 2, 1) := by decide +kernel
theorem dX8_made_59 : decode cX8_made 59 = .ok (.invokevirtual 286, 3) := by decide +kernel
theorem dX8_made_62 : decode cX8_made 62 = .ok (.ireturn, 1) := by decide +kernel
theorem dX8_made_63 : decode cX8_made 63 = .ok (.aload_n 0, 1) := by decide +kernel
theorem dX8_made_64 : decode cX8_made 64 = .ok (.iload_n 1, 1) := by decide +kernel
theorem dX8_made_65 : decode cX8_made 65 = .ok (.iconst 1, 1) := by decide +kernel
theorem dX8_made_66 : decode cX8_made 66 = .ok (.invokevirtual 368, 3) := by decide +kernel
theorem dX8_made_69 : decode cX8_made 69 = .ok (.ireturn, 1) := by decide +kernel
theorem dX8_made_70 : decode cX8_made 70 = .ok (.aload_n 0, 1) := by decide +kernel
theorem dX8_made_71 : decode cX8_made 71 = .ok (.iload_n 1, 1) := by decide +kernel
theorem dX8_made_72 : decode cX8_made 72 = .ok (.iconst 0, 1) := by decide +kernel
theorem dX8_made_73 : decode cX8_made 73 = .ok (.invokevirtual 368, 3) := by decide +kernel
theorem dX8_made_76 : decode cX8_made 76 = .ok (.ireturn, 1) := by decide +kernel
theorem dX8_made_77 : decode cX8_made 77 = .ok (.aload_n 0, 1) := by decide +kernel
theorem dX8_made_78 : decode cX8_made 78 = .ok (.iload_n 1, 1) := by decide +kernel
theorem dX8_made_79 : decode cX8_made 79 = .ok (.invokevirtual 307, 3) := by decide +kernel
theorem dX8_made_82 : decode cX8_made 82 = .ok (.ifCond .eq 7, 3) := by decide +kernel
theorem dX8_made_85 : decode cX8_made 85 = .ok (.iconst 1, 1) := by decide +kernel
theorem dX8_made_86 : decode cX8_made 86 = .ok (.goto 4, 3) := by decide +kernel
theorem dX8_made_89 : decode cX8_made 89 = .ok (.iconst 0, 1) := by decide +kernel
theorem dX8_made_90 : decode cX8_made 90 = .ok (.ireturn, 1) := by decide +kernel
theorem dX8_made_91 : decode cX8_made 91 = .ok (.aload_n 0, 1) := by decide +kernel
theorem dX8_made_92 : decode cX8_made 92 = .ok (.iload_n 1, 1) := by decide +kernel
theorem dX8_made_93 : decode cX8_made 93 = .ok (.invokevirtual 372, 3) := by decide +kernel
theorem dX8_made_96 : decode cX8_made 96 = .ok (.ireturn, 1) := by decide +kernel
theorem dX8_made_97 : decode cX8_made 97 = .ok (.aload_n 0, 1) := by decide +kernel
theorem dX8_made_98 : decode cX8_made 98 = .ok (.iload_n 1, 1) := by decide +kernel
theorem dX8_made_99 : decode cX8_made 99 = .ok (.iconst 3, 1) := by decide +kernel
theorem dX8_made_100 : decode cX8_made 100 = .ok (.invokevirtual 286, 3) := by decide +kernel
theorem dX8_made_103 : decode cX8_made 103 = .ok (.ireturn, 1) := by decide +kernel
theorem dX8_made_104 : decode cX8_made 104 = .ok (.iconst (-1), 1) := by decide +kernel
theorem dX8_made_105 : decode cX8_made 105 = .ok (.ireturn, 1) := by decide +kernel
theorem dX8_ofTaken_0 : decode cX8_ofTaken 0 = .ok (.aload_n 0, 1) := by decide +kernel
theorem dX8_ofTaken_1 : decode cX8_ofTaken 1 = .ok (.iload_n 1, 1) := by decide +kernel
theorem dX8_ofTaken_2 : decode cX8_ofTaken 2 = .ok (.iload_n 2, 1) := by decide +kernel
theorem dX8_ofTaken_3 : decode cX8_ofTaken 3 = .ok (.invokevirtual 289, 3) := by decide +kernel
theorem dX8_ofTaken_6 : decode cX8_ofTaken 6 = .ok (.istore 4, 2) := by decide +kernel
theorem dX8_ofTaken_8 : decode cX8_ofTaken 8 = .ok (.iload 4, 2) := by decide +kernel
theorem dX8_ofTaken_10 : decode cX8_ofTaken 10 = .ok (.ifCond .ge 8, 3) := by decide +kernel
theorem dX8_ofTaken_13 : decode cX8_ofTaken 13 = .ok (.bipush (-2), 2) := by decide +kernel
theorem dX8_ofTaken_15 : decode cX8_ofTaken 15 = .ok (.goto 12, 3) := by decide +kernel
theorem dX8_ofTaken_18 : decode cX8_ofTaken 18 = .ok (.aload_n 0, 1) := by decide +kernel
theorem dX8_ofTaken_19 : decode cX8_ofTaken 19 = .ok (.getfield 73, 3) := by decide +kernel
theorem dX8_ofTaken_22 : decode cX8_ofTaken 22 = .ok (.iload 4, 2) := by decide +kernel
theorem dX8_ofTaken_24 : decode cX8_ofTaken 24 = .ok (.iload_n 3, 1) := by decide +kernel
theorem dX8_ofTaken_25 : decode cX8_ofTaken 25 = .ok (.iadd, 1) := by decide +kernel
theorem dX8_ofTaken_26 : decode cX8_ofTaken 26 = .ok (.iaload, 1) := by decide +kernel
theorem dX8_ofTaken_27 : decode cX8_ofTaken 27 = .ok (.ireturn, 1) := by decide +kernel
theorem dX8_source_0 : decode cX8_source 0 = .ok (.aload_n 0, 1) := by decide +kernel
theorem dX8_source_1 : decode cX8_source 1 = .ok (.iload_n 1, 1) := by decide +kernel
theorem dX8_source_2 : decode cX8_source 2 = .ok (.invokevirtual 301, 3) := by decide +kernel
theorem dX8_source_5 : decode cX8_source 5 = .ok (.ifCond .eq 21, 3) := by decide +kernel
theorem dX8_source_8 : decode cX8_source 8 = .ok (.aload_n 0, 1) := by decide +kernel
theorem dX8_source_9 : decode cX8_source 9 = .ok (.iload_n 2, 1) := by decide +kernel
theorem dX8_source_10 : decode cX8_source 10 = .ok (.invokevirtual 334, 3) := by decide +kernel
theorem dX8_source_13 : decode cX8_source 13 = .ok (.ifCond .eq 13, 3) := by decide +kernel
theorem dX8_source_16 : decode cX8_source 16 = .ok (.aload_n 0, 1) := by decide +kernel
theorem dX8_source_17 : decode cX8_source 17 = .ok (.iload_n 1, 1) := by decide +kernel
theorem dX8_source_18 : decode cX8_source 18 = .ok (.iload_n 2, 1) := by decide +kernel
theorem dX8_source_19 : decode cX8_source 19 = .ok (.iconst 1, 1) := by decide +kernel
theorem dX8_source_20 : decode cX8_source 20 = .ok (.invokevirtual 375, 3) := by decide +kernel
theorem dX8_source_23 : decode cX8_source 23 = .ok (.goto 4, 3) := by decide +kernel
theorem dX8_source_26 : decode cX8_source 26 = .ok (.iconst (-1), 1) := by decide +kernel
theorem dX8_source_27 : decode cX8_source 27 = .ok (.ireturn, 1) := by decide +kernel
theorem dX8_taken_0 : decode cX8_taken 0 = .ok (.aload_n 0, 1) := by decide +kernel
theorem dX8_taken_1 : decode cX8_taken 1 = .ok (.iload_n 1, 1) := by decide +kernel
theorem dX8_taken_2 : decode cX8_taken 2 = .ok (.invokevirtual 301, 3) := by decide +kernel
theorem dX8_taken_5 : decode cX8_taken 5 = .ok (.ifCond .eq 21, 3) := by decide +kernel
theorem dX8_taken_8 : decode cX8_taken 8 = .ok (.aload_n 0, 1) := by decide +kernel
theorem dX8_taken_9 : decode cX8_taken 9 = .ok (.iload_n 2, 1) := by decide +kernel
theorem dX8_taken_10 : decode cX8_taken 10 = .ok (.invokevirtual 334, 3) := by decide +kernel
theorem dX8_taken_13 : decode cX8_taken 13 = .ok (.ifCond .eq 13, 3) := by decide +kernel
theorem dX8_taken_16 : decode cX8_taken 16 = .ok (.aload_n 0, 1) := by decide +kernel
theorem dX8_taken_17 : decode cX8_taken 17 = .ok (.iload_n 1, 1) := by decide +kernel
theorem dX8_taken_18 : decode cX8_taken 18 = .ok (.iload_n 2, 1) := by decide +kernel
theorem dX8_taken_19 : decode cX8_taken 19 = .ok (.iconst 2, 1) := by decide +kernel
theorem dX8_taken_20 : decode cX8_taken 20 = .ok (.invokevirtual 375, 3) := by decide +kernel
theorem dX8_taken_23 : decode cX8_taken 23 = .ok (.goto 4, 3) := by decide +kernel
theorem dX8_taken_26 : decode cX8_taken 26 = .ok (.iconst (-1), 1) := by decide +kernel
theorem dX8_taken_27 : decode cX8_taken 27 = .ok (.ireturn, 1) := by decide +kernel
theorem dX8_held_0 : decode cX8_held 0 = .ok (.aload_n 0, 1) := by decide +kernel
theorem dX8_held_1 : decode cX8_held 1 = .ok (.iload_n 1, 1) := by decide +kernel
theorem dX8_held_2 : decode cX8_held 2 = .ok (.invokevirtual 301, 3) := by decide +kernel
theorem dX8_held_5 : decode cX8_held 5 = .ok (.ifCond .eq 30, 3) := by decide +kernel
theorem dX8_held_8 : decode cX8_held 8 = .ok (.aload_n 0, 1) := by decide +kernel
theorem dX8_held_9 : decode cX8_held 9 = .ok (.iload_n 2, 1) := by decide +kernel
theorem dX8_held_10 : decode cX8_held 10 = .ok (.invokevirtual 334, 3) := by decide +kernel
theorem dX8_held_13 : decode cX8_held 13 = .ok (.ifCond .eq 22, 3) := by decide +kernel
theorem dX8_held_16 : decode cX8_held 16 = .ok (.aload_n 0, 1) := by decide +kernel
theorem dX8_held_17 : decode cX8_held 17 = .ok (.iload_n 1, 1) := by decide +kernel
theorem dX8_held_18 : decode cX8_held 18 = .ok (.iload_n 2, 1) := by decide +kernel
theorem dX8_held_19 : decode cX8_held 19 = .ok (.invokevirtual 289, 3) := by decide +kernel
theorem dX8_held_22 : decode cX8_held 22 = .ok (.ifCond .lt 13, 3) := by decide +kernel
theorem dX8_held_25 : decode cX8_held 25 = .ok (.aload_n 0, 1) := by decide +kernel
theorem dX8_held_26 : decode cX8_held 26 = .ok (.iload_n 1, 1) := by decide +kernel
theorem dX8_held_27 : decode cX8_held 27 = .ok (.iload_n 2, 1) := by decide +kernel
theorem dX8_held_28 : decode cX8_held 28 = .ok (.iconst 3, 1) := by decide +kernel
theorem dX8_held_29 : decode cX8_held 29 = .ok (.invokevirtual 375, 3) := by decide +kernel
theorem dX8_held_32 : decode cX8_held 32 = .ok (.goto 4, 3) := by decide +kernel
theorem dX8_held_35 : decode cX8_held 35 = .ok (.iconst 0, 1) := by decide +kernel
theorem dX8_held_36 : decode cX8_held 36 = .ok (.ireturn, 1) := by decide +kernel
theorem dX8_dirty_0 : decode cX8_dirty 0 = .ok (.aload_n 0, 1) := by decide +kernel
theorem dX8_dirty_1 : decode cX8_dirty 1 = .ok (.iload_n 1, 1) := by decide +kernel
theorem dX8_dirty_2 : decode cX8_dirty 2 = .ok (.invokevirtual 301, 3) := by decide +kernel
theorem dX8_dirty_5 : decode cX8_dirty 5 = .ok (.ifCond .ne 5, 3) := by decide +kernel
theorem dX8_dirty_8 : decode cX8_dirty 8 = .ok (.iconst (-1), 1) := by decide +kernel
theorem dX8_dirty_9 : decode cX8_dirty 9 = .ok (.ireturn, 1) := by decide +kernel
theorem dX8_dirty_10 : decode cX8_dirty 10 = .ok (.iconst 0, 1) := by decide +kernel
theorem dX8_dirty_11 : decode cX8_dirty 11 = .ok (.istore_n 2, 1) := by decide +kernel
theorem dX8_dirty_12 : decode cX8_dirty 12 = .ok (.aload_n 0, 1) := by decide +kernel
theorem dX8_dirty_13 : decode cX8_dirty 13 = .ok (.getfield 73, 3) := by decide +kernel
theorem dX8_dirty_16 : decode cX8_dirty 16 = .ok (.iconst 3, 1) := by decide +kernel
theorem dX8_dirty_17 : decode cX8_dirty 17 = .ok (.iaload, 1) := by decide +kernel
theorem dX8_dirty_18 : decode cX8_dirty 18 = .ok (.istore_n 3, 1) := by decide +kernel
theorem dX8_dirty_19 : decode cX8_dirty 19 = .ok (.iconst 0, 1) := by decide +kernel
theorem dX8_dirty_20 : decode cX8_dirty 20 = .ok (.istore 4, 2) := by decide +kernel
theorem dX8_dirty_22 : decode cX8_dirty 22 = .ok (.iload 4, 2) := by decide +kernel
theorem dX8_dirty_24 : decode cX8_dirty 24 = .ok (.aload_n 0, 1) := by decide +kernel
theorem dX8_dirty_25 : decode cX8_dirty 25 = .ok (.getfield 73, 3) := by decide +kernel
theorem dX8_dirty_28 : decode cX8_dirty 28 = .ok (.iconst 0, 1) := by decide +kernel
theorem dX8_dirty_29 : decode cX8_dirty 29 = .ok (.iaload, 1) := by decide +kernel
theorem dX8_dirty_30 : decode cX8_dirty 30 = .ok (.if_icmp .ge 80, 3) := by decide +kernel
theorem dX8_dirty_33 : decode cX8_dirty 33 = .ok (.aload_n 0, 1) := by decide +kernel
theorem dX8_dirty_34 : decode cX8_dirty 34 = .ok (.iload_n 1, 1) := by decide +kernel
theorem dX8_dirty_35 : decode cX8_dirty 35 = .ok (.iload 4, 2) := by decide +kernel
theorem dX8_dirty_37 : decode cX8_dirty 37 = .ok (.invokevirtual 289, 3) := by decide +kernel
theorem dX8_dirty_40 : decode cX8_dirty 40 = .ok (.istore 5, 2) := by decide +kernel
theorem dX8_dirty_42 : decode cX8_dirty 42 = .ok (.iload 5, 2) := by decide +kernel
theorem dX8_dirty_44 : decode cX8_dirty 44 = .ok (.ifCond .lt 53, 3) := by decide +kernel
theorem dX8_dirty_47 : decode cX8_dirty 47 = .ok (.aload_n 0, 1) := by decide +kernel
theorem dX8_dirty_48 : decode cX8_dirty 48 = .ok (.iload_n 3, 1) := by decide +kernel
theorem dX8_dirty_49 : decode cX8_dirty 49 = .ok (.aload_n 0, 1) := by decide +kernel
theorem dX8_dirty_50 : decode cX8_dirty 50 = .ok (.getfield 73, 3) := by decide +kernel
theorem dX8_dirty_53 : decode cX8_dirty 53 = .ok (.iload 5, 2) := by decide +kernel
theorem dX8_dirty_55 : decode cX8_dirty 55 = .ok (.iconst 1, 1) := by decide +kernel
theorem dX8_dirty_56 : decode cX8_dirty 56 = .ok (.iadd, 1) := by decide +kernel
theorem dX8_dirty_57 : decode cX8_dirty 57 = .ok (.iaload, 1) := by decide +kernel
theorem dX8_dirty_58 : decode cX8_dirty 58 = .ok (.aload_n 0, 1) := by decide +kernel
theorem dX8_dirty_59 : decode cX8_dirty 59 = .ok (.getfield 73, 3) := by decide +kernel
theorem dX8_dirty_62 : decode cX8_dirty 62 = .ok (.iload 5, 2) := by decide +kernel
theorem dX8_dirty_64 : decode cX8_dirty 64 = .ok (.iconst 2, 1) := by decide +kernel
theorem dX8_dirty_65 : decode cX8_dirty 65 = .ok (.iadd, 1) := by decide +kernel
theorem dX8_dirty_66 : decode cX8_dirty 66 = .ok (.iaload, 1) := by decide +kernel
theorem dX8_dirty_67 : decode cX8_dirty 67 = .ok (.invokevirtual 298, 3) := by decide +kernel
theorem dX8_dirty_70 : decode cX8_dirty 70 = .ok (.ifCond .ne 27, 3) := by decide +kernel
theorem dX8_dirty_73 : decode cX8_dirty 73 = .ok (.aload_n 0, 1) := by decide +kernel
theorem dX8_dirty_74 : decode cX8_dirty 74 = .ok (.iload 4, 2) := by decide +kernel
theorem dX8_dirty_76 : decode cX8_dirty 76 = .ok (.iload_n 3, 1) := by decide +kernel
theorem dX8_dirty_77 : decode cX8_dirty 77 = .ok (.aload_n 0, 1) := by decide +kernel
theorem dX8_dirty_78 : decode cX8_dirty 78 = .ok (.iload_n 3, 1) := by decide +kernel
theorem dX8_dirty_79 : decode cX8_dirty 79 = .ok (.invokevirtual 217, 3) := by decide +kernel
theorem dX8_dirty_82 : decode cX8_dirty 82 = .ok (.invokevirtual 362, 3) := by decide +kernel
theorem dX8_dirty_85 : decode cX8_dirty 85 = .ok (.aload_n 0, 1) := by decide +kernel
theorem dX8_dirty_86 : decode cX8_dirty 86 = .ok (.getfield 73, 3) := by decide +kernel
theorem dX8_dirty_89 : decode cX8_dirty 89 = .ok (.iload 5, 2) := by decide +kernel
theorem dX8_dirty_91 : decode cX8_dirty 91 = .ok (.iconst 2, 1) := by decide +kernel
theorem dX8_dirty_92 : decode cX8_dirty 92 = .ok (.iadd, 1) := by decide +kernel
theorem dX8_dirty_93 : decode cX8_dirty 93 = .ok (.iaload, 1) := by decide +kernel
theorem dX8_dirty_94 : decode cX8_dirty 94 = .ok (.if_icmp .le 10, 3) := by decide +kernel
theorem dX8_dirty_97 : decode cX8_dirty 97 = .ok (.iload_n 2, 1) := by decide +kernel
theorem dX8_dirty_98 : decode cX8_dirty 98 = .ok (.iconst 1, 1) := by decide +kernel
theorem dX8_dirty_99 : decode cX8_dirty 99 = .ok (.iload 4, 2) := by decide +kernel
theorem dX8_dirty_101 : decode cX8_dirty 101 = .ok (.ishl, 1) := by decide +kernel
theorem dX8_dirty_102 : decode cX8_dirty 102 = .ok (.ior, 1) := by decide +kernel
theorem dX8_dirty_103 : decode cX8_dirty 103 = .ok (.istore_n 2, 1) := by decide +kernel
theorem dX8_dirty_104 : decode cX8_dirty 104 = .ok (.iinc 4 1, 3) := by decide +kernel
theorem dX8_dirty_107 : decode cX8_dirty 107 = .ok (.goto (-85), 3) := by decide +kernel
theorem dX8_dirty_110 : decode cX8_dirty 110 = .ok (.iload_n 2, 1) := by decide +kernel
theorem dX8_dirty_111 : decode cX8_dirty 111 = .ok (.ireturn, 1) := by decide +kernel
theorem dX8_age_0 : decode cX8_age 0 = .ok (.aload_n 0, 1) := by decide +kernel
theorem dX8_age_1 : decode cX8_age 1 = .ok (.iload_n 1, 1) := by decide +kernel
theorem dX8_age_2 : decode cX8_age 2 = .ok (.invokevirtual 301, 3) := by decide +kernel
theorem dX8_age_5 : decode cX8_age 5 = .ok (.ifCond .eq 30, 3) := by decide +kernel
theorem dX8_age_8 : decode cX8_age 8 = .ok (.aload_n 0, 1) := by decide +kernel
theorem dX8_age_9 : decode cX8_age 9 = .ok (.iload_n 1, 1) := by decide +kernel
theorem dX8_age_10 : decode cX8_age 10 = .ok (.invokevirtual 307, 3) := by decide +kernel
theorem dX8_age_13 : decode cX8_age 13 = .ok (.ifCond .eq 22, 3) := by decide +kernel
theorem dX8_age_16 : decode cX8_age 16 = .ok (.aload_n 0, 1) := by decide +kernel
theorem dX8_age_17 : decode cX8_age 17 = .ok (.aload_n 0, 1) := by decide +kernel
theorem dX8_age_18 : decode cX8_age 18 = .ok (.getfield 73, 3) := by decide +kernel
theorem dX8_age_21 : decode cX8_age 21 = .ok (.iconst 3, 1) := by decide +kernel
theorem dX8_age_22 : decode cX8_age 22 = .ok (.iaload, 1) := by decide +kernel
theorem dX8_age_23 : decode cX8_age 23 = .ok (.invokevirtual 217, 3) := by decide +kernel
theorem dX8_age_26 : decode cX8_age 26 = .ok (.aload_n 0, 1) := by decide +kernel
theorem dX8_age_27 : decode cX8_age 27 = .ok (.iload_n 1, 1) := by decide +kernel
theorem dX8_age_28 : decode cX8_age 28 = .ok (.invokevirtual 313, 3) := by decide +kernel
theorem dX8_age_31 : decode cX8_age 31 = .ok (.isub, 1) := by decide +kernel
theorem dX8_age_32 : decode cX8_age 32 = .ok (.goto 6, 3) := by decide +kernel
theorem dX8_age_35 : decode cX8_age 35 = .ok (.sipush (-1000), 3) := by decide +kernel
theorem dX8_age_38 : decode cX8_age 38 = .ok (.ireturn, 1) := by decide +kernel
theorem dX8_would_0 : decode cX8_would 0 = .ok (.aload_n 0, 1) := by decide +kernel
theorem dX8_would_1 : decode cX8_would 1 = .ok (.iload_n 1, 1) := by decide +kernel
theorem dX8_would_2 : decode cX8_would 2 = .ok (.iload_n 2, 1) := by decide +kernel
theorem dX8_would_3 : decode cX8_would 3 = .ok (.iload_n 3, 1) := by decide +kernel
theorem dX8_would_4 : decode cX8_would 4 = .ok (.invokevirtual 350, 3) := by decide +kernel
theorem dX8_would_7 : decode cX8_would 7 = .ok (.ireturn, 1) := by decide +kernel
theorem dX8_says_0 : decode cX8_says 0 = .ok (.aload_n 0, 1) := by decide +kernel
theorem dX8_says_1 : decode cX8_says 1 = .ok (.getfield 79, 3) := by decide +kernel
theorem dX8_says_4 : decode cX8_says 4 = .ok (.aload_n 0, 1) := by decide +kernel
theorem dX8_says_5 : decode cX8_says 5 = .ok (.getfield 378, 3) := by decide +kernel
theorem dX8_says_8 : decode cX8_says 8 = .ok (.iload_n 1, 1) := by decide +kernel
theorem dX8_says_9 : decode cX8_says 9 = .ok (.iastore, 1) := by decide +kernel
theorem dX8_says_10 : decode cX8_says 10 = .ok (.aload_n 0, 1) := by decide +kernel
theorem dX8_says_11 : decode cX8_says 11 = .ok (.dup, 1) := by decide +kernel
theorem dX8_says_12 : decode cX8_says 12 = .ok (.getfield 378, 3) := by decide +kernel
theorem dX8_says_15 : decode cX8_says 15 = .ok (.iconst 1, 1) := by decide +kernel
theorem dX8_says_16 : decode cX8_says 16 = .ok (.iadd, 1) := by decide +kernel
theorem dX8_says_17 : decode cX8_says 17 = .ok (.putfield 378, 3) := by decide +kernel
theorem dX8_says_20 : decode cX8_says 20 = .ok (.return_, 1) := by decide +kernel
theorem dX8_saysInt_0 : decode cX8_saysInt 0 = .ok (.iload_n 1, 1) := by decide +kernel
theorem dX8_saysInt_1 : decode cX8_saysInt 1 = .ok (.bipush 99, 2) := by decide +kernel
theorem dX8_saysInt_3 : decode cX8_saysInt 3 = .ok (.if_icmp .le 14, 3) := by decide +kernel
theorem dX8_saysInt_6 : decode cX8_saysInt 6 = .ok (.aload_n 0, 1) := by decide +kernel
theorem dX8_saysInt_7 : decode cX8_saysInt 7 = .ok (.bipush 48, 2) := by decide +kernel
theorem dX8_saysInt_9 : decode cX8_saysInt 9 = .ok (.iload_n 1, 1) := by decide +kernel
theorem dX8_saysInt_10 : decode cX8_saysInt 10 = .ok (.bipush 100, 2) := by decide +kernel
theorem dX8_saysInt_12 : decode cX8_saysInt 12 = .ok (.idiv, 1) := by decide +kernel
theorem dX8_saysInt_13 : decode cX8_saysInt 13 = .ok (.iadd, 1) := by decide +kernel
theorem dX8_saysInt_14 : decode cX8_saysInt 14 = .ok (.invokevirtual 381, 3) := by decide +kernel
theorem dX8_saysInt_17 : decode cX8_saysInt 17 = .ok (.iload_n 1, 1) := by decide +kernel
theorem dX8_saysInt_18 : decode cX8_saysInt 18 = .ok (.bipush 9, 2) := by decide +kernel
theorem dX8_saysInt_20 : decode cX8_saysInt 20 = .ok (.if_icmp .le 17, 3) := by decide +kernel
theorem dX8_saysInt_23 : decode cX8_saysInt 23 = .ok (.aload_n 0, 1) := by decide +kernel
theorem dX8_saysInt_24 : decode cX8_saysInt 24 = .ok (.bipush 48, 2) := by decide +kernel
theorem dX8_saysInt_26 : decode cX8_saysInt 26 = .ok (.iload_n 1, 1) := by decide +kernel
theorem dX8_saysInt_27 : decode cX8_saysInt 27 = .ok (.bipush 10, 2) := by decide +kernel
theorem dX8_saysInt_29 : decode cX8_saysInt 29 = .ok (.idiv, 1) := by decide +kernel
theorem dX8_saysInt_30 : decode cX8_saysInt 30 = .ok (.bipush 10, 2) := by decide +kernel
theorem dX8_saysInt_32 : decode cX8_saysInt 32 = .ok (.irem, 1) := by decide +kernel
theorem dX8_saysInt_33 : decode cX8_saysInt 33 = .ok (.iadd, 1) := by decide +kernel
theorem dX8_saysInt_34 : decode cX8_saysInt 34 = .ok (.invokevirtual 381, 3) := by decide +kernel
theorem dX8_saysInt_37 : decode cX8_saysInt 37 = .ok (.aload_n 0, 1) := by decide +kernel
theorem dX8_saysInt_38 : decode cX8_saysInt 38 = .ok (.bipush 48, 2) := by decide +kernel
theorem dX8_saysInt_40 : decode cX8_saysInt 40 = .ok (.iload_n 1, 1) := by decide +kernel
theorem dX8_saysInt_41 : decode cX8_saysInt 41 = .ok (.bipush 10, 2) := by decide +kernel
theorem dX8_saysInt_43 : decode cX8_saysInt 43 = .ok (.irem, 1) := by decide +kernel
theorem dX8_saysInt_44 : decode cX8_saysInt 44 = .ok (.iadd, 1) := by decide +kernel
theorem dX8_saysInt_45 : decode cX8_saysInt 45 = .ok (.invokevirtual 381, 3) := by decide +kernel
theorem dX8_saysInt_48 : decode cX8_saysInt 48 = .ok (.return_, 1) := by decide +kernel
theorem dX8_saysOutcome_0 : decode cX8_saysOutcome 0 = .ok (.iload_n 1, 1) := by decide +kernel
theorem dX8_saysOutcome_1 : decode cX8_saysOutcome 1 = .ok (.tableswitch 145 0 3 #[31, 46, 73, 112], 31) := by decide +kernel
theorem dX8_saysOutcome_32 : decode cX8_saysOutcome 32 = .ok (.aload_n 0, 1) := by decide +kernel
theorem dX8_saysOutcome_33 : decode cX8_saysOutcome 33 = .ok (.bipush 111, 2) := by decide +kernel
theorem dX8_saysOutcome_35 : decode cX8_saysOutcome 35 = .ok (.invokevirtual 381, 3) := by decide +kernel
theorem dX8_saysOutcome_38 : decode cX8_saysOutcome 38 = .ok (.aload_n 0, 1) := by decide +kernel
theorem dX8_saysOutcome_39 : decode cX8_saysOutcome 39 = .ok (.bipush 107, 2) := by decide +kernel
theorem dX8_saysOutcome_41 : decode cX8_saysOutcome 41 = .ok (.invokevirtual 381, 3) := by decide +kernel
theorem dX8_saysOutcome_44 : decode cX8_saysOutcome 44 = .ok (.goto 130, 3) := by decide +kernel
theorem dX8_saysOutcome_47 : decode cX8_saysOutcome 47 = .ok (.aload_n 0, 1) := by decide +kernel
theorem dX8_saysOutcome_48 : decode cX8_saysOutcome 48 = .ok (.bipush 110, 2) := by decide +kernel
theorem dX8_saysOutcome_50 : decode cX8_saysOutcome 50 = .ok (.invokevirtual 381, 3) := by decide +kernel
theorem dX8_saysOutcome_53 : decode cX8_saysOutcome 53 = .ok (.aload_n 0, 1) := by decide +kernel
theorem dX8_saysOutcome_54 : decode cX8_saysOutcome 54 = .ok (.bipush 111, 2) := by decide +kernel
theorem dX8_saysOutcome_56 : decode cX8_saysOutcome 56 = .ok (.invokevirtual 381, 3) := by decide +kernel
theorem dX8_saysOutcome_59 : decode cX8_saysOutcome 59 = .ok (.aload_n 0, 1) := by decide +kernel
theorem dX8_saysOutcome_60 : decode cX8_saysOutcome 60 = .ok (.bipush 110, 2) := by decide +kernel
theorem dX8_saysOutcome_62 : decode cX8_saysOutcome 62 = .ok (.invokevirtual 381, 3) := by decide +kernel
theorem dX8_saysOutcome_65 : decode cX8_saysOutcome 65 = .ok (.aload_n 0, 1) := by decide +kernel
theorem dX8_saysOutcome_66 : decode cX8_saysOutcome 66 = .ok (.bipush 101, 2) := by decide +kernel
theorem dX8_saysOutcome_68 : decode cX8_saysOutcome 68 = .ok (.invokevirtual 381, 3) := by decide +kernel
theorem dX8_saysOutcome_71 : decode cX8_saysOutcome 71 = .ok (.goto 103, 3) := by decide +kernel
theorem dX8_saysOutcome_74 : decode cX8_saysOutcome 74 = .ok (.aload_n 0, 1) := by decide +kernel
theorem dX8_saysOutcome_75 : decode cX8_saysOutcome 75 = .ok (.bipush 98, 2) := by decide +kernel
theorem dX8_saysOutcome_77 : decode cX8_saysOutcome 77 = .ok (.invokevirtual 381, 3) := by decide +kernel
theorem dX8_saysOutcome_80 : decode cX8_saysOutcome 80 = .ok (.aload_n 0, 1) := by decide +kernel
theorem dX8_saysOutcome_81 : decode cX8_saysOutcome 81 = .ok (.bipush 114, 2) := by decide +kernel
theorem dX8_saysOutcome_83 : decode cX8_saysOutcome 83 = .ok (.invokevirtual 381, 3) := by decide +kernel
theorem dX8_saysOutcome_86 : decode cX8_saysOutcome 86 = .ok (.aload_n 0, 1) := by decide +kernel
theorem dX8_saysOutcome_87 : decode cX8_saysOutcome 87 = .ok (.bipush 97, 2) := by decide +kernel
theorem dX8_saysOutcome_89 : decode cX8_saysOutcome 89 = .ok (.invokevirtual 381, 3) := by decide +kernel
theorem dX8_saysOutcome_92 : decode cX8_saysOutcome 92 = .ok (.aload_n 0, 1) := by decide +kernel
theorem dX8_saysOutcome_93 : decode cX8_saysOutcome 93 = .ok (.bipush 110, 2) := by decide +kernel
theorem dX8_saysOutcome_95 : decode cX8_saysOutcome 95 = .ok (.invokevirtual 381, 3) := by decide +kernel
theorem dX8_saysOutcome_98 : decode cX8_saysOutcome 98 = .ok (.aload_n 0, 1) := by decide +kernel
theorem dX8_saysOutcome_99 : decode cX8_saysOutcome 99 = .ok (.bipush 99, 2) := by decide +kernel
theorem dX8_saysOutcome_101 : decode cX8_saysOutcome 101 = .ok (.invokevirtual 381, 3) := by decide +kernel
theorem dX8_saysOutcome_104 : decode cX8_saysOutcome 104 = .ok (.aload_n 0, 1) := by decide +kernel
theorem dX8_saysOutcome_105 : decode cX8_saysOutcome 105 = .ok (.bipush 104, 2) := by decide +kernel
theorem dX8_saysOutcome_107 : decode cX8_saysOutcome 107 = .ok (.invokevirtual 381, 3) := by decide +kernel
theorem dX8_saysOutcome_110 : decode cX8_saysOutcome 110 = .ok (.goto 64, 3) := by decide +kernel
theorem dX8_saysOutcome_113 : decode cX8_saysOutcome 113 = .ok (.aload_n 0, 1) := by decide +kernel
theorem dX8_saysOutcome_114 : decode cX8_saysOutcome 114 = .ok (.bipush 101, 2) := by decide +kernel
theorem dX8_saysOutcome_116 : decode cX8_saysOutcome 116 = .ok (.invokevirtual 381, 3) := by decide +kernel
theorem dX8_saysOutcome_119 : decode cX8_saysOutcome 119 = .ok (.aload_n 0, 1) := by decide +kernel
theorem dX8_saysOutcome_120 : decode cX8_saysOutcome 120 = .ok (.bipush 97, 2) := by decide +kernel
theorem dX8_saysOutcome_122 : decode cX8_saysOutcome 122 = .ok (.invokevirtual 381, 3) := by decide +kernel
theorem dX8_saysOutcome_125 : decode cX8_saysOutcome 125 = .ok (.aload_n 0, 1) := by decide +kernel
theorem dX8_saysOutcome_126 : decode cX8_saysOutcome 126 = .ok (.bipush 114, 2) := by decide +kernel
theorem dX8_saysOutcome_128 : decode cX8_saysOutcome 128 = .ok (.invokevirtual 381, 3) := by decide +kernel
theorem dX8_saysOutcome_131 : decode cX8_saysOutcome 131 = .ok (.aload_n 0, 1) := by decide +kernel
theorem dX8_saysOutcome_132 : decode cX8_saysOutcome 132 = .ok (.bipush 108, 2) := by decide +kernel
theorem dX8_saysOutcome_134 : decode cX8_saysOutcome 134 = .ok (.invokevirtual 381, 3) := by decide +kernel
theorem dX8_saysOutcome_137 : decode cX8_saysOutcome 137 = .ok (.aload_n 0, 1) := by decide +kernel
theorem dX8_saysOutcome_138 : decode cX8_saysOutcome 138 = .ok (.bipush 121, 2) := by decide +kernel
theorem dX8_saysOutcome_140 : decode cX8_saysOutcome 140 = .ok (.invokevirtual 381, 3) := by decide +kernel
theorem dX8_saysOutcome_143 : decode cX8_saysOutcome 143 = .ok (.goto 31, 3) := by decide +kernel
theorem dX8_saysOutcome_146 : decode cX8_saysOutcome 146 = .ok (.aload_n 0, 1) := by decide +kernel
theorem dX8_saysOutcome_147 : decode cX8_saysOutcome 147 = .ok (.bipush 116, 2) := by decide +kernel
theorem dX8_saysOutcome_149 : decode cX8_saysOutcome 149 = .ok (.invokevirtual 381, 3) := by decide +kernel
theorem dX8_saysOutcome_152 : decode cX8_saysOutcome 152 = .ok (.aload_n 0, 1) := by decide +kernel
theorem dX8_saysOutcome_153 : decode cX8_saysOutcome 153 = .ok (.aload_n 0, 1) := by decide +kernel
theorem dX8_saysOutcome_154 : decode cX8_saysOutcome 154 = .ok (.getfield 325, 3) := by decide +kernel
theorem dX8_saysOutcome_157 : decode cX8_saysOutcome 157 = .ok (.invokevirtual 384, 3) := by decide +kernel
theorem dX8_saysOutcome_160 : decode cX8_saysOutcome 160 = .ok (.aload_n 0, 1) := by decide +kernel
theorem dX8_saysOutcome_161 : decode cX8_saysOutcome 161 = .ok (.bipush 112, 2) := by decide +kernel
theorem dX8_saysOutcome_163 : decode cX8_saysOutcome 163 = .ok (.invokevirtual 381, 3) := by decide +kernel
theorem dX8_saysOutcome_166 : decode cX8_saysOutcome 166 = .ok (.aload_n 0, 1) := by decide +kernel
theorem dX8_saysOutcome_167 : decode cX8_saysOutcome 167 = .ok (.aload_n 0, 1) := by decide +kernel
theorem dX8_saysOutcome_168 : decode cX8_saysOutcome 168 = .ok (.getfield 328, 3) := by decide +kernel
theorem dX8_saysOutcome_171 : decode cX8_saysOutcome 171 = .ok (.invokevirtual 384, 3) := by decide +kernel
theorem dX8_saysOutcome_174 : decode cX8_saysOutcome 174 = .ok (.return_, 1) := by decide +kernel
theorem dX8_named_0 : decode cX8_named 0 = .ok (.aload_n 0, 1) := by decide +kernel
theorem dX8_named_1 : decode cX8_named 1 = .ok (.iconst 0, 1) := by decide +kernel
theorem dX8_named_2 : decode cX8_named 2 = .ok (.putfield 378, 3) := by decide +kernel
theorem dX8_named_5 : decode cX8_named 5 = .ok (.aload_n 0, 1) := by decide +kernel
theorem dX8_named_6 : decode cX8_named 6 = .ok (.aload_n 0, 1) := by decide +kernel
theorem dX8_named_7 : decode cX8_named 7 = .ok (.iload_n 1, 1) := by decide +kernel
theorem dX8_named_8 : decode cX8_named 8 = .ok (.iload_n 2, 1) := by decide +kernel
theorem dX8_named_9 : decode cX8_named 9 = .ok (.iload_n 3, 1) := by decide +kernel
theorem dX8_named_10 : decode cX8_named 10 = .ok (.invokevirtual 350, 3) := by decide +kernel
theorem dX8_named_13 : decode cX8_named 13 = .ok (.invokevirtual 387, 3) := by decide +kernel
theorem dX8_named_16 : decode cX8_named 16 = .ok (.iload 4, 2) := by decide +kernel
theorem dX8_named_18 : decode cX8_named 18 = .ok (.iconst 0, 1) := by decide +kernel
theorem dX8_named_19 : decode cX8_named 19 = .ok (.aload_n 0, 1) := by decide +kernel
theorem dX8_named_20 : decode cX8_named 20 = .ok (.getfield 378, 3) := by decide +kernel
theorem dX8_named_23 : decode cX8_named 23 = .ok (.iconst 1, 1) := by decide +kernel
theorem dX8_named_24 : decode cX8_named 24 = .ok (.isub, 1) := by decide +kernel
theorem dX8_named_25 : decode cX8_named 25 = .ok (.invokestatic 194, 3) := by decide +kernel
theorem dX8_named_28 : decode cX8_named 28 = .ok (.ifCond .eq 13, 3) := by decide +kernel
theorem dX8_named_31 : decode cX8_named 31 = .ok (.aload_n 0, 1) := by decide +kernel
theorem dX8_named_32 : decode cX8_named 32 = .ok (.getfield 79, 3) := by decide +kernel
theorem dX8_named_35 : decode cX8_named 35 = .ok (.iload 4, 2) := by decide +kernel
theorem dX8_named_37 : decode cX8_named 37 = .ok (.iaload, 1) := by decide +kernel
theorem dX8_named_38 : decode cX8_named 38 = .ok (.goto 4, 3) := by decide +kernel
theorem dX8_named_41 : decode cX8_named 41 = .ok (.iconst (-1), 1) := by decide +kernel
theorem dX8_named_42 : decode cX8_named 42 = .ok (.ireturn, 1) := by decide +kernel
theorem dX8_isNeeding_0 : decode cX8_isNeeding 0 = .ok (.iload_n 0, 1) := by decide +kernel
theorem dX8_isNeeding_1 : decode cX8_isNeeding 1 = .ok (.ifCond .eq 8, 3) := by decide +kernel
theorem dX8_isNeeding_4 : decode cX8_isNeeding 4 = .ok (.iload_n 0, 1) := by decide +kernel
theorem dX8_isNeeding_5 : decode cX8_isNeeding 5 = .ok (.iconst 3, 1) := by decide +kernel
theorem dX8_isNeeding_6 : decode cX8_isNeeding 6 = .ok (.if_icmp .le 7, 3) := by decide +kernel
theorem dX8_isNeeding_9 : decode cX8_isNeeding 9 = .ok (.iconst 1, 1) := by decide +kernel
theorem dX8_isNeeding_10 : decode cX8_isNeeding 10 = .ok (.goto 4, 3) := by decide +kernel
theorem dX8_isNeeding_13 : decode cX8_isNeeding 13 = .ok (.iconst 0, 1) := by decide +kernel
theorem dX8_isNeeding_14 : decode cX8_isNeeding 14 = .ok (.ireturn, 1) := by decide +kernel
theorem dX8_needs_0 : decode cX8_needs 0 = .ok (.iload 4, 2) := by decide +kernel
theorem dX8_needs_2 : decode cX8_needs 2 = .ok (.iconst 0, 1) := by decide +kernel
theorem dX8_needs_3 : decode cX8_needs 3 = .ok (.iconst 3, 1) := by decide +kernel
theorem dX8_needs_4 : decode cX8_needs 4 = .ok (.invokestatic 194, 3) := by decide +kernel
theorem dX8_needs_7 : decode cX8_needs 7 = .ok (.ifCond .eq 16, 3) := by decide +kernel
theorem dX8_needs_10 : decode cX8_needs 10 = .ok (.aload_n 0, 1) := by decide +kernel
theorem dX8_needs_11 : decode cX8_needs 11 = .ok (.iload_n 1, 1) := by decide +kernel
theorem dX8_needs_12 : decode cX8_needs 12 = .ok (.iload_n 2, 1) := by decide +kernel
theorem dX8_needs_13 : decode cX8_needs 13 = .ok (.iload_n 3, 1) := by decide +kernel
theorem dX8_needs_14 : decode cX8_needs 14 = .ok (.invokevirtual 350, 3) := by decide +kernel
theorem dX8_needs_17 : decode cX8_needs 17 = .ok (.invokestatic 390, 3) := by decide +kernel
theorem dX8_needs_20 : decode cX8_needs 20 = .ok (.ifCond .ne 5, 3) := by decide +kernel
theorem dX8_needs_23 : decode cX8_needs 23 = .ok (.iconst (-1), 1) := by decide +kernel
theorem dX8_needs_24 : decode cX8_needs 24 = .ok (.ireturn, 1) := by decide +kernel
theorem dX8_needs_25 : decode cX8_needs 25 = .ok (.aload_n 0, 1) := by decide +kernel
theorem dX8_needs_26 : decode cX8_needs 26 = .ok (.getfield 319, 3) := by decide +kernel
theorem dX8_needs_29 : decode cX8_needs 29 = .ok (.ifCond .ge 15, 3) := by decide +kernel
theorem dX8_needs_32 : decode cX8_needs 32 = .ok (.iload 4, 2) := by decide +kernel
theorem dX8_needs_34 : decode cX8_needs 34 = .ok (.ifCond .ne 7, 3) := by decide +kernel
theorem dX8_needs_37 : decode cX8_needs 37 = .ok (.iconst 0, 1) := by decide +kernel
theorem dX8_needs_38 : decode cX8_needs 38 = .ok (.goto 5, 3) := by decide +kernel
theorem dX8_needs_41 : decode cX8_needs 41 = .ok (.bipush (-2), 2) := by decide +kernel
theorem dX8_needs_43 : decode cX8_needs 43 = .ok (.ireturn, 1) := by decide +kernel
theorem dX8_needs_44 : decode cX8_needs 44 = .ok (.iload 4, 2) := by decide +kernel
theorem dX8_needs_46 : decode cX8_needs 46 = .ok (.tableswitch 49 0 2 #[26, 35, 40], 26) := by decide +kernel
theorem dX8_needs_72 : decode cX8_needs 72 = .ok (.iload_n 3, 1) := by decide +kernel
theorem dX8_needs_73 : decode cX8_needs 73 = .ok (.aload_n 0, 1) := by decide +kernel
theorem dX8_needs_74 : decode cX8_needs 74 = .ok (.getfield 319, 3) := by decide +kernel
theorem dX8_needs_77 : decode cX8_needs 77 = .ok (.isub, 1) := by decide +kernel
theorem dX8_needs_78 : decode cX8_needs 78 = .ok (.iconst 1, 1) := by decide +kernel
theorem dX8_needs_79 : decode cX8_needs 79 = .ok (.iadd, 1) := by decide +kernel
theorem dX8_needs_80 : decode cX8_needs 80 = .ok (.ireturn, 1) := by decide +kernel
theorem dX8_needs_81 : decode cX8_needs 81 = .ok (.aload_n 0, 1) := by decide +kernel
theorem dX8_needs_82 : decode cX8_needs 82 = .ok (.getfield 319, 3) := by decide +kernel
theorem dX8_needs_85 : decode cX8_needs 85 = .ok (.ireturn, 1) := by decide +kernel
theorem dX8_needs_86 : decode cX8_needs 86 = .ok (.aload_n 0, 1) := by decide +kernel
theorem dX8_needs_87 : decode cX8_needs 87 = .ok (.aload_n 0, 1) := by decide +kernel
theorem dX8_needs_88 : decode cX8_needs 88 = .ok (.getfield 319, 3) := by decide +kernel
theorem dX8_needs_91 : decode cX8_needs 91 = .ok (.invokevirtual 277, 3) := by decide +kernel
theorem dX8_needs_94 : decode cX8_needs 94 = .ok (.ireturn, 1) := by decide +kernel
theorem dX8_needs_95 : decode cX8_needs 95 = .ok (.aload_n 0, 1) := by decide +kernel
theorem dX8_needs_96 : decode cX8_needs 96 = .ok (.iload_n 3, 1) := by decide +kernel
theorem dX8_needs_97 : decode cX8_needs 97 = .ok (.invokevirtual 277, 3) := by decide +kernel
theorem dX8_needs_100 : decode cX8_needs 100 = .ok (.ireturn, 1) := by decide +kernel
theorem dX8_work_0 : decode cX8_work 0 = .ok (.aload_n 0, 1) := by decide +kernel
theorem dX8_work_1 : decode cX8_work 1 = .ok (.iload_n 1, 1) := by decide +kernel
theorem dX8_work_2 : decode cX8_work 2 = .ok (.iload_n 2, 1) := by decide +kernel
theorem dX8_work_3 : decode cX8_work 3 = .ok (.iload_n 3, 1) := by decide +kernel
theorem dX8_work_4 : decode cX8_work 4 = .ok (.invokevirtual 350, 3) := by decide +kernel
theorem dX8_work_7 : decode cX8_work 7 = .ok (.invokestatic 390, 3) := by decide +kernel
theorem dX8_work_10 : decode cX8_work 10 = .ok (.ifCond .ne 5, 3) := by decide +kernel
theorem dX8_work_13 : decode cX8_work 13 = .ok (.iconst (-1), 1) := by decide +kernel
theorem dX8_work_14 : decode cX8_work 14 = .ok (.ireturn, 1) := by decide +kernel
theorem dX8_work_15 : decode cX8_work 15 = .ok (.iconst 0, 1) := by decide +kernel
theorem dX8_work_16 : decode cX8_work 16 = .ok (.istore 4, 2) := by decide +kernel
theorem dX8_work_18 : decode cX8_work 18 = .ok (.iconst 1, 1) := by decide +kernel
theorem dX8_work_19 : decode cX8_work 19 = .ok (.istore 5, 2) := by decide +kernel
theorem dX8_work_21 : decode cX8_work 21 = .ok (.iload 5, 2) := by decide +kernel
theorem dX8_work_23 : decode cX8_work 23 = .ok (.iload_n 3, 1) := by decide +kernel
theorem dX8_work_24 : decode cX8_work 24 = .ok (.if_icmp .gt 45, 3) := by decide +kernel
theorem dX8_work_27 : decode cX8_work 27 = .ok (.aload_n 0, 1) := by decide +kernel
theorem dX8_work_28 : decode cX8_work 28 = .ok (.iload_n 2, 1) := by decide +kernel
theorem dX8_work_29 : decode cX8_work 29 = .ok (.iload 5, 2) := by decide +kernel
theorem dX8_work_31 : decode cX8_work 31 = .ok (.invokevirtual 283, 3) := by decide +kernel
theorem dX8_work_34 : decode cX8_work 34 = .ok (.istore 6, 2) := by decide +kernel
theorem dX8_work_36 : decode cX8_work 36 = .ok (.iload 6, 2) := by decide +kernel
theorem dX8_work_38 : decode cX8_work 38 = .ok (.ifCond .lt 25, 3) := by decide +kernel
theorem dX8_work_41 : decode cX8_work 41 = .ok (.iload 5, 2) := by decide +kernel
theorem dX8_work_43 : decode cX8_work 43 = .ok (.aload_n 0, 1) := by decide +kernel
theorem dX8_work_44 : decode cX8_work 44 = .ok (.getfield 73, 3) := by decide +kernel
theorem dX8_work_47 : decode cX8_work 47 = .ok (.aload_n 0, 1) := by decide +kernel
theorem dX8_work_48 : decode cX8_work 48 = .ok (.iload_n 1, 1) := by decide +kernel
theorem dX8_work_49 : decode cX8_work 49 = .ok (.iload 6, 2) := by decide +kernel
theorem dX8_work_51 : decode cX8_work 51 = .ok (.invokevirtual 289, 3) := by decide +kernel
theorem dX8_work_54 : decode cX8_work 54 = .ok (.iconst 2, 1) := by decide +kernel
theorem dX8_work_55 : decode cX8_work 55 = .ok (.iadd, 1) := by decide +kernel
theorem dX8_work_56 : decode cX8_work 56 = .ok (.iaload, 1) := by decide +kernel
theorem dX8_work_57 : decode cX8_work 57 = .ok (.if_icmp .le 6, 3) := by decide +kernel
theorem dX8_work_60 : decode cX8_work 60 = .ok (.iinc 4 1, 3) := by decide +kernel
theorem dX8_work_63 : decode cX8_work 63 = .ok (.iinc 5 1, 3) := by decide +kernel
theorem dX8_work_66 : decode cX8_work 66 = .ok (.goto (-45), 3) := by decide +kernel
theorem dX8_work_69 : decode cX8_work 69 = .ok (.iload 4, 2) := by decide +kernel
theorem dX8_work_71 : decode cX8_work 71 = .ok (.ireturn, 1) := by decide +kernel
theorem dX8_best_0 : decode cX8_best 0 = .ok (.aload_n 0, 1) := by decide +kernel
theorem dX8_best_1 : decode cX8_best 1 = .ok (.iload_n 1, 1) := by decide +kernel
theorem dX8_best_2 : decode cX8_best 2 = .ok (.iload_n 2, 1) := by decide +kernel
theorem dX8_best_3 : decode cX8_best 3 = .ok (.invokevirtual 304, 3) := by decide +kernel
theorem dX8_best_6 : decode cX8_best 6 = .ok (.ifCond .ne 5, 3) := by decide +kernel
theorem dX8_best_9 : decode cX8_best 9 = .ok (.iconst (-1), 1) := by decide +kernel
theorem dX8_best_10 : decode cX8_best 10 = .ok (.ireturn, 1) := by decide +kernel
theorem dX8_best_11 : decode cX8_best 11 = .ok (.bipush (-2), 2) := by decide +kernel
theorem dX8_best_13 : decode cX8_best 13 = .ok (.istore_n 3, 1) := by decide +kernel
theorem dX8_best_14 : decode cX8_best 14 = .ok (.iconst 0, 1) := by decide +kernel
theorem dX8_best_15 : decode cX8_best 15 = .ok (.istore 4, 2) := by decide +kernel
theorem dX8_best_17 : decode cX8_best 17 = .ok (.iconst 0, 1) := by decide +kernel
theorem dX8_best_18 : decode cX8_best 18 = .ok (.istore 5, 2) := by decide +kernel
theorem dX8_best_20 : decode cX8_best 20 = .ok (.iload 5, 2) := by decide +kernel
theorem dX8_best_22 : decode cX8_best 22 = .ok (.aload_n 0, 1) := by decide +kernel
theorem dX8_best_23 : decode cX8_best 23 = .ok (.getfield 73, 3) := by decide +kernel
theorem dX8_best_26 : decode cX8_best 26 = .ok (.iconst 5, 1) := by decide +kernel
theorem dX8_best_27 : decode cX8_best 27 = .ok (.iaload, 1) := by decide +kernel
theorem dX8_best_28 : decode cX8_best 28 = .ok (.if_icmp .ge 65, 3) := by decide +kernel
theorem dX8_best_31 : decode cX8_best 31 = .ok (.aload_n 0, 1) := by decide +kernel
theorem dX8_best_32 : decode cX8_best 32 = .ok (.iload 5, 2) := by decide +kernel
theorem dX8_best_34 : decode cX8_best 34 = .ok (.iload_n 1, 1) := by decide +kernel
theorem dX8_best_35 : decode cX8_best 35 = .ok (.iload_n 2, 1) := by decide +kernel
theorem dX8_best_36 : decode cX8_best 36 = .ok (.invokevirtual 350, 3) := by decide +kernel
theorem dX8_best_39 : decode cX8_best 39 = .ok (.ifCond .eq 6, 3) := by decide +kernel
theorem dX8_best_42 : decode cX8_best 42 = .ok (.goto 45, 3) := by decide +kernel
theorem dX8_best_45 : decode cX8_best 45 = .ok (.aload_n 0, 1) := by decide +kernel
theorem dX8_best_46 : decode cX8_best 46 = .ok (.getfield 319, 3) := by decide +kernel
theorem dX8_best_49 : decode cX8_best 49 = .ok (.ifCond .ge 7, 3) := by decide +kernel
theorem dX8_best_52 : decode cX8_best 52 = .ok (.iconst 0, 1) := by decide +kernel
theorem dX8_best_53 : decode cX8_best 53 = .ok (.goto 11, 3) := by decide +kernel
theorem dX8_best_56 : decode cX8_best 56 = .ok (.iload_n 2, 1) := by decide +kernel
theorem dX8_best_57 : decode cX8_best 57 = .ok (.aload_n 0, 1) := by decide +kernel
theorem dX8_best_58 : decode cX8_best 58 = .ok (.getfield 319, 3) := by decide +kernel
theorem dX8_best_61 : decode cX8_best 61 = .ok (.isub, 1) := by decide +kernel
theorem dX8_best_62 : decode cX8_best 62 = .ok (.iconst 1, 1) := by decide +kernel
theorem dX8_best_63 : decode cX8_best 63 = .ok (.iadd, 1) := by decide +kernel
theorem dX8_best_64 : decode cX8_best 64 = .ok (.istore 6, 2) := by decide +kernel
theorem dX8_best_66 : decode cX8_best 66 = .ok (.iload_n 3, 1) := by decide +kernel
theorem dX8_best_67 : decode cX8_best 67 = .ok (.ifCond .lt 13, 3) := by decide +kernel
theorem dX8_best_70 : decode cX8_best 70 = .ok (.iload 6, 2) := by decide +kernel
theorem dX8_best_72 : decode cX8_best 72 = .ok (.iload 4, 2) := by decide +kernel
theorem dX8_best_74 : decode cX8_best 74 = .ok (.if_icmp .le 6, 3) := by decide +kernel
theorem dX8_best_77 : decode cX8_best 77 = .ok (.goto 10, 3) := by decide +kernel
theorem dX8_best_80 : decode cX8_best 80 = .ok (.iload 5, 2) := by decide +kernel
theorem dX8_best_82 : decode cX8_best 82 = .ok (.istore_n 3, 1) := by decide +kernel
theorem dX8_best_83 : decode cX8_best 83 = .ok (.iload 6, 2) := by decide +kernel
theorem dX8_best_85 : decode cX8_best 85 = .ok (.istore 4, 2) := by decide +kernel
theorem dX8_best_87 : decode cX8_best 87 = .ok (.iinc 5 1, 3) := by decide +kernel
theorem dX8_best_90 : decode cX8_best 90 = .ok (.goto (-70), 3) := by decide +kernel
theorem dX8_best_93 : decode cX8_best 93 = .ok (.iload_n 3, 1) := by decide +kernel
theorem dX8_best_94 : decode cX8_best 94 = .ok (.ireturn, 1) := by decide +kernel
theorem dX8_pinnedBy_0 : decode cX8_pinnedBy 0 = .ok (.iconst 0, 1) := by decide +kernel
theorem dX8_pinnedBy_1 : decode cX8_pinnedBy 1 = .ok (.istore_n 3, 1) := by decide +kernel
theorem dX8_pinnedBy_2 : decode cX8_pinnedBy 2 = .ok (.aload_n 0, 1) := by decide +kernel
theorem dX8_pinnedBy_3 : decode cX8_pinnedBy 3 = .ok (.getfield 73, 3) := by decide +kernel
theorem dX8_pinnedBy_6 : decode cX8_pinnedBy 6 = .ok (.iconst 3, 1) := by decide +kernel
theorem dX8_pinnedBy_7 : decode cX8_pinnedBy 7 = .ok (.iaload, 1) := by decide +kernel
theorem dX8_pinnedBy_8 : decode cX8_pinnedBy 8 = .ok (.istore 4, 2) := by decide +kernel
theorem dX8_pinnedBy_10 : decode cX8_pinnedBy 10 = .ok (.aload_n 0, 1) := by decide +kernel
theorem dX8_pinnedBy_11 : decode cX8_pinnedBy 11 = .ok (.iload 4, 2) := by decide +kernel
theorem dX8_pinnedBy_13 : decode cX8_pinnedBy 13 = .ok (.invokevirtual 217, 3) := by decide +kernel
theorem dX8_pinnedBy_16 : decode cX8_pinnedBy 16 = .ok (.istore 5, 2) := by decide +kernel
theorem dX8_pinnedBy_18 : decode cX8_pinnedBy 18 = .ok (.iconst 0, 1) := by decide +kernel
theorem dX8_pinnedBy_19 : decode cX8_pinnedBy 19 = .ok (.istore 6, 2) := by decide +kernel
theorem dX8_pinnedBy_21 : decode cX8_pinnedBy 21 = .ok (.iload 6, 2) := by decide +kernel
theorem dX8_pinnedBy_23 : decode cX8_pinnedBy 23 = .ok (.aload_n 0, 1) := by decide +kernel
theorem dX8_pinnedBy_24 : decode cX8_pinnedBy 24 = .ok (.getfield 73, 3) := by decide +kernel
theorem dX8_pinnedBy_27 : decode cX8_pinnedBy 27 = .ok (.iconst 5, 1) := by decide +kernel
theorem dX8_pinnedBy_28 : decode cX8_pinnedBy 28 = .ok (.iaload, 1) := by decide +kernel
theorem dX8_pinnedBy_29 : decode cX8_pinnedBy 29 = .ok (.if_icmp .ge 74, 3) := by decide +kernel
theorem dX8_pinnedBy_32 : decode cX8_pinnedBy 32 = .ok (.aload_n 0, 1) := by decide +kernel
theorem dX8_pinnedBy_33 : decode cX8_pinnedBy 33 = .ok (.iload 6, 2) := by decide +kernel
theorem dX8_pinnedBy_35 : decode cX8_pinnedBy 35 = .ok (.iload 4, 2) := by decide +kernel
theorem dX8_pinnedBy_37 : decode cX8_pinnedBy 37 = .ok (.iload 5, 2) := by decide +kernel
theorem dX8_pinnedBy_39 : decode cX8_pinnedBy 39 = .ok (.invokevirtual 350, 3) := by decide +kernel
theorem dX8_pinnedBy_42 : decode cX8_pinnedBy 42 = .ok (.invokestatic 390, 3) := by decide +kernel
theorem dX8_pinnedBy_45 : decode cX8_pinnedBy 45 = .ok (.ifCond .eq 52, 3) := by decide +kernel
theorem dX8_pinnedBy_48 : decode cX8_pinnedBy 48 = .ok (.aload_n 0, 1) := by decide +kernel
theorem dX8_pinnedBy_49 : decode cX8_pinnedBy 49 = .ok (.getfield 319, 3) := by decide +kernel
theorem dX8_pinnedBy_52 : decode cX8_pinnedBy 52 = .ok (.ifCond .lt 45, 3) := by decide +kernel
theorem dX8_pinnedBy_55 : decode cX8_pinnedBy 55 = .ok (.iload_n 2, 1) := by decide +kernel
theorem dX8_pinnedBy_56 : decode cX8_pinnedBy 56 = .ok (.aload_n 0, 1) := by decide +kernel
theorem dX8_pinnedBy_57 : decode cX8_pinnedBy 57 = .ok (.aload_n 0, 1) := by decide +kernel
theorem dX8_pinnedBy_58 : decode cX8_pinnedBy 58 = .ok (.getfield 319, 3) := by decide +kernel
theorem dX8_pinnedBy_61 : decode cX8_pinnedBy 61 = .ok (.invokevirtual 277, 3) := by decide +kernel
theorem dX8_pinnedBy_64 : decode cX8_pinnedBy 64 = .ok (.aload_n 0, 1) := by decide +kernel
theorem dX8_pinnedBy_65 : decode cX8_pinnedBy 65 = .ok (.iload 5, 2) := by decide +kernel
theorem dX8_pinnedBy_67 : decode cX8_pinnedBy 67 = .ok (.invokevirtual 277, 3) := by decide +kernel
theorem dX8_pinnedBy_70 : decode cX8_pinnedBy 70 = .ok (.invokestatic 194, 3) := by decide +kernel
theorem dX8_pinnedBy_73 : decode cX8_pinnedBy 73 = .ok (.ifCond .ne 6, 3) := by decide +kernel
theorem dX8_pinnedBy_76 : decode cX8_pinnedBy 76 = .ok (.goto 21, 3) := by decide +kernel
theorem dX8_pinnedBy_79 : decode cX8_pinnedBy 79 = .ok (.aload_n 0, 1) := by decide +kernel
theorem dX8_pinnedBy_80 : decode cX8_pinnedBy 80 = .ok (.iload 4, 2) := by decide +kernel
theorem dX8_pinnedBy_82 : decode cX8_pinnedBy 82 = .ok (.iload_n 2, 1) := by decide +kernel
theorem dX8_pinnedBy_83 : decode cX8_pinnedBy 83 = .ok (.invokevirtual 322, 3) := by decide +kernel
theorem dX8_pinnedBy_86 : decode cX8_pinnedBy 86 = .ok (.iload_n 1, 1) := by decide +kernel
theorem dX8_pinnedBy_87 : decode cX8_pinnedBy 87 = .ok (.if_icmp .ne 10, 3) := by decide +kernel
theorem dX8_pinnedBy_90 : decode cX8_pinnedBy 90 = .ok (.iload_n 3, 1) := by decide +kernel
theorem dX8_pinnedBy_91 : decode cX8_pinnedBy 91 = .ok (.iconst 1, 1) := by decide +kernel
theorem dX8_pinnedBy_92 : decode cX8_pinnedBy 92 = .ok (.iload 6, 2) := by decide +kernel
theorem dX8_pinnedBy_94 : decode cX8_pinnedBy 94 = .ok (.ishl, 1) := by decide +kernel
theorem dX8_pinnedBy_95 : decode cX8_pinnedBy 95 = .ok (.ior, 1) := by decide +kernel
theorem dX8_pinnedBy_96 : decode cX8_pinnedBy 96 = .ok (.istore_n 3, 1) := by decide +kernel
theorem dX8_pinnedBy_97 : decode cX8_pinnedBy 97 = .ok (.iinc 6 1, 3) := by decide +kernel
theorem dX8_pinnedBy_100 : decode cX8_pinnedBy 100 = .ok (.goto (-79), 3) := by decide +kernel
theorem dX8_pinnedBy_103 : decode cX8_pinnedBy 103 = .ok (.iload_n 3, 1) := by decide +kernel
theorem dX8_pinnedBy_104 : decode cX8_pinnedBy 104 = .ok (.ireturn, 1) := by decide +kernel
theorem dX8_pinned_0 : decode cX8_pinned 0 = .ok (.aload_n 0, 1) := by decide +kernel
theorem dX8_pinned_1 : decode cX8_pinned 1 = .ok (.iload_n 1, 1) := by decide +kernel
theorem dX8_pinned_2 : decode cX8_pinned 2 = .ok (.iload_n 2, 1) := by decide +kernel
theorem dX8_pinned_3 : decode cX8_pinned 3 = .ok (.invokevirtual 352, 3) := by decide +kernel
theorem dX8_pinned_6 : decode cX8_pinned 6 = .ok (.ifCond .eq 12, 3) := by decide +kernel
theorem dX8_pinned_9 : decode cX8_pinned 9 = .ok (.aload_n 0, 1) := by decide +kernel
theorem dX8_pinned_10 : decode cX8_pinned 10 = .ok (.iload_n 1, 1) := by decide +kernel
theorem dX8_pinned_11 : decode cX8_pinned 11 = .ok (.iload_n 2, 1) := by decide +kernel
theorem dX8_pinned_12 : decode cX8_pinned 12 = .ok (.invokevirtual 393, 3) := by decide +kernel
theorem dX8_pinned_15 : decode cX8_pinned 15 = .ok (.goto 4, 3) := by decide +kernel
theorem dX8_pinned_18 : decode cX8_pinned 18 = .ok (.iconst (-1), 1) := by decide +kernel
theorem dX8_pinned_19 : decode cX8_pinned 19 = .ok (.ireturn, 1) := by decide +kernel
theorem dX8_spare_0 : decode cX8_spare 0 = .ok (.iconst 0, 1) := by decide +kernel
theorem dX8_spare_1 : decode cX8_spare 1 = .ok (.istore_n 1, 1) := by decide +kernel
theorem dX8_spare_2 : decode cX8_spare 2 = .ok (.iconst 0, 1) := by decide +kernel
theorem dX8_spare_3 : decode cX8_spare 3 = .ok (.istore_n 2, 1) := by decide +kernel
theorem dX8_spare_4 : decode cX8_spare 4 = .ok (.iload_n 2, 1) := by decide +kernel
theorem dX8_spare_5 : decode cX8_spare 5 = .ok (.aload_n 0, 1) := by decide +kernel
theorem dX8_spare_6 : decode cX8_spare 6 = .ok (.getfield 73, 3) := by decide +kernel
theorem dX8_spare_9 : decode cX8_spare 9 = .ok (.iconst 2, 1) := by decide +kernel
theorem dX8_spare_10 : decode cX8_spare 10 = .ok (.iaload, 1) := by decide +kernel
theorem dX8_spare_11 : decode cX8_spare 11 = .ok (.if_icmp .ge 44, 3) := by decide +kernel
theorem dX8_spare_14 : decode cX8_spare 14 = .ok (.iconst 0, 1) := by decide +kernel
theorem dX8_spare_15 : decode cX8_spare 15 = .ok (.istore_n 3, 1) := by decide +kernel
theorem dX8_spare_16 : decode cX8_spare 16 = .ok (.iload_n 3, 1) := by decide +kernel
theorem dX8_spare_17 : decode cX8_spare 17 = .ok (.bipush 120, 2) := by decide +kernel
theorem dX8_spare_19 : decode cX8_spare 19 = .ok (.if_icmp .ge 30, 3) := by decide +kernel
theorem dX8_spare_22 : decode cX8_spare 22 = .ok (.aload_n 0, 1) := by decide +kernel
theorem dX8_spare_23 : decode cX8_spare 23 = .ok (.iload_n 2, 1) := by decide +kernel
theorem dX8_spare_24 : decode cX8_spare 24 = .ok (.iload_n 3, 1) := by decide +kernel
theorem dX8_spare_25 : decode cX8_spare 25 = .ok (.invokevirtual 295, 3) := by decide +kernel
theorem dX8_spare_28 : decode cX8_spare 28 = .ok (.ifCond .le 15, 3) := by decide +kernel
theorem dX8_spare_31 : decode cX8_spare 31 = .ok (.aload_n 0, 1) := by decide +kernel
theorem dX8_spare_32 : decode cX8_spare 32 = .ok (.iload_n 2, 1) := by decide +kernel
theorem dX8_spare_33 : decode cX8_spare 33 = .ok (.iload_n 3, 1) := by decide +kernel
theorem dX8_spare_34 : decode cX8_spare 34 = .ok (.invokevirtual 393, 3) := by decide +kernel
theorem dX8_spare_37 : decode cX8_spare 37 = .ok (.ifCond .ne 6, 3) := by decide +kernel
theorem dX8_spare_40 : decode cX8_spare 40 = .ok (.iinc 1 1, 3) := by decide +kernel
theorem dX8_spare_43 : decode cX8_spare 43 = .ok (.iinc 3 1, 3) := by decide +kernel
theorem dX8_spare_46 : decode cX8_spare 46 = .ok (.goto (-30), 3) := by decide +kernel
theorem dX8_spare_49 : decode cX8_spare 49 = .ok (.iinc 2 1, 3) := by decide +kernel
theorem dX8_spare_52 : decode cX8_spare 52 = .ok (.goto (-48), 3) := by decide +kernel
theorem dX8_spare_55 : decode cX8_spare 55 = .ok (.iload_n 1, 1) := by decide +kernel
theorem dX8_spare_56 : decode cX8_spare 56 = .ok (.ireturn, 1) := by decide +kernel
theorem dX8_window_0 : decode cX8_window 0 = .ok (.aload_n 0, 1) := by decide +kernel
theorem dX8_window_1 : decode cX8_window 1 = .ok (.iload_n 1, 1) := by decide +kernel
theorem dX8_window_2 : decode cX8_window 2 = .ok (.invokevirtual 301, 3) := by decide +kernel
theorem dX8_window_5 : decode cX8_window 5 = .ok (.ifCond .eq 20, 3) := by decide +kernel
theorem dX8_window_8 : decode cX8_window 8 = .ok (.aload_n 0, 1) := by decide +kernel
theorem dX8_window_9 : decode cX8_window 9 = .ok (.iload_n 2, 1) := by decide +kernel
theorem dX8_window_10 : decode cX8_window 10 = .ok (.invokevirtual 262, 3) := by decide +kernel
theorem dX8_window_13 : decode cX8_window 13 = .ok (.ifCond .eq 12, 3) := by decide +kernel
theorem dX8_window_16 : decode cX8_window 16 = .ok (.iload_n 3, 1) := by decide +kernel
theorem dX8_window_17 : decode cX8_window 17 = .ok (.iconst 0, 1) := by decide +kernel
theorem dX8_window_18 : decode cX8_window 18 = .ok (.iconst 2, 1) := by decide +kernel
theorem dX8_window_19 : decode cX8_window 19 = .ok (.invokestatic 194, 3) := by decide +kernel
theorem dX8_window_22 : decode cX8_window 22 = .ok (.ifCond .ne 5, 3) := by decide +kernel
theorem dX8_window_25 : decode cX8_window 25 = .ok (.iconst (-1), 1) := by decide +kernel
theorem dX8_window_26 : decode cX8_window 26 = .ok (.ireturn, 1) := by decide +kernel
theorem dX8_window_27 : decode cX8_window 27 = .ok (.iconst 0, 1) := by decide +kernel
theorem dX8_window_28 : decode cX8_window 28 = .ok (.istore 4, 2) := by decide +kernel
theorem dX8_window_30 : decode cX8_window 30 = .ok (.bipush (-2), 2) := by decide +kernel
theorem dX8_window_32 : decode cX8_window 32 = .ok (.istore 5, 2) := by decide +kernel
theorem dX8_window_34 : decode cX8_window 34 = .ok (.bipush (-2), 2) := by decide +kernel
theorem dX8_window_36 : decode cX8_window 36 = .ok (.istore 6, 2) := by decide +kernel
theorem dX8_window_38 : decode cX8_window 38 = .ok (.iconst 0, 1) := by decide +kernel
theorem dX8_window_39 : decode cX8_window 39 = .ok (.istore 7, 2) := by decide +kernel
theorem dX8_window_41 : decode cX8_window 41 = .ok (.iload 7, 2) := by decide +kernel
theorem dX8_window_43 : decode cX8_window 43 = .ok (.aload_n 0, 1) := by decide +kernel
theorem dX8_window_44 : decode cX8_window 44 = .ok (.iload_n 2, 1) := by decide +kernel
theorem dX8_window_45 : decode cX8_window 45 = .ok (.invokevirtual 217, 3) := by decide +kernel
theorem dX8_window_48 : decode cX8_window 48 = .ok (.if_icmp .gt 39, 3) := by decide +kernel
theorem dX8_window_51 : decode cX8_window 51 = .ok (.aload_n 0, 1) := by decide +kernel
theorem dX8_window_52 : decode cX8_window 52 = .ok (.iload_n 1, 1) := by decide +kernel
theorem dX8_window_53 : decode cX8_window 53 = .ok (.iload_n 2, 1) := by decide +kernel
theorem dX8_window_54 : decode cX8_window 54 = .ok (.iload 7, 2) := by decide +kernel
theorem dX8_window_56 : decode cX8_window 56 = .ok (.invokevirtual 350, 3) := by decide +kernel
theorem dX8_window_59 : decode cX8_window 59 = .ok (.ifCond .eq 6, 3) := by decide +kernel
theorem dX8_window_62 : decode cX8_window 62 = .ok (.goto 19, 3) := by decide +kernel
theorem dX8_window_65 : decode cX8_window 65 = .ok (.iload 4, 2) := by decide +kernel
theorem dX8_window_67 : decode cX8_window 67 = .ok (.ifCond .ne 7, 3) := by decide +kernel
theorem dX8_window_70 : decode cX8_window 70 = .ok (.iload 7, 2) := by decide +kernel
theorem dX8_window_72 : decode cX8_window 72 = .ok (.istore 5, 2) := by decide +kernel
theorem dX8_window_74 : decode cX8_window 74 = .ok (.iload 7, 2) := by decide +kernel
theorem dX8_window_76 : decode cX8_window 76 = .ok (.istore 6, 2) := by decide +kernel
theorem dX8_window_78 : decode cX8_window 78 = .ok (.iinc 4 1, 3) := by decide +kernel
theorem dX8_window_81 : decode cX8_window 81 = .ok (.iinc 7 1, 3) := by decide +kernel
theorem dX8_window_84 : decode cX8_window 84 = .ok (.goto (-43), 3) := by decide +kernel
theorem dX8_window_87 : decode cX8_window 87 = .ok (.iload_n 3, 1) := by decide +kernel
theorem dX8_window_88 : decode cX8_window 88 = .ok (.ifCond .ne 8, 3) := by decide +kernel
theorem dX8_window_91 : decode cX8_window 91 = .ok (.iload 4, 2) := by decide +kernel
theorem dX8_window_93 : decode cX8_window 93 = .ok (.goto 15, 3) := by decide +kernel
theorem dX8_window_96 : decode cX8_window 96 = .ok (.iload_n 3, 1) := by decide +kernel
theorem dX8_window_97 : decode cX8_window 97 = .ok (.iconst 1, 1) := by decide +kernel
theorem dX8_window_98 : decode cX8_window 98 = .ok (.if_icmp .ne 8, 3) := by decide +kernel
theorem dX8_window_101 : decode cX8_window 101 = .ok (.iload 5, 2) := by decide +kernel
theorem dX8_window_103 : decode cX8_window 103 = .ok (.goto 5, 3) := by decide +kernel
theorem dX8_window_106 : decode cX8_window 106 = .ok (.iload 6, 2) := by decide +kernel
theorem dX8_window_108 : decode cX8_window 108 = .ok (.ireturn, 1) := by decide +kernel
theorem dX8_isAnyTo_0 : decode cX8_isAnyTo 0 = .ok (.iconst 0, 1) := by decide +kernel
theorem dX8_isAnyTo_1 : decode cX8_isAnyTo 1 = .ok (.istore_n 3, 1) := by decide +kernel
theorem dX8_isAnyTo_2 : decode cX8_isAnyTo 2 = .ok (.iload_n 3, 1) := by decide +kernel
theorem dX8_isAnyTo_3 : decode cX8_isAnyTo 3 = .ok (.aload_n 0, 1) := by decide +kernel
theorem dX8_isAnyTo_4 : decode cX8_isAnyTo 4 = .ok (.getfield 73, 3) := by decide +kernel
theorem dX8_isAnyTo_7 : decode cX8_isAnyTo 7 = .ok (.iconst 5, 1) := by decide +kernel
theorem dX8_isAnyTo_8 : decode cX8_isAnyTo 8 = .ok (.iaload, 1) := by decide +kernel
theorem dX8_isAnyTo_9 : decode cX8_isAnyTo 9 = .ok (.if_icmp .ge 21, 3) := by decide +kernel
theorem dX8_isAnyTo_12 : decode cX8_isAnyTo 12 = .ok (.aload_n 0, 1) := by decide +kernel
theorem dX8_isAnyTo_13 : decode cX8_isAnyTo 13 = .ok (.iload_n 3, 1) := by decide +kernel
theorem dX8_isAnyTo_14 : decode cX8_isAnyTo 14 = .ok (.iload_n 1, 1) := by decide +kernel
theorem dX8_isAnyTo_15 : decode cX8_isAnyTo 15 = .ok (.iload_n 2, 1) := by decide +kernel
theorem dX8_isAnyTo_16 : decode cX8_isAnyTo 16 = .ok (.invokevirtual 350, 3) := by decide +kernel
theorem dX8_isAnyTo_19 : decode cX8_isAnyTo 19 = .ok (.ifCond .ne 5, 3) := by decide +kernel
theorem dX8_isAnyTo_22 : decode cX8_isAnyTo 22 = .ok (.iconst 1, 1) := by decide +kernel
theorem dX8_isAnyTo_23 : decode cX8_isAnyTo 23 = .ok (.ireturn, 1) := by decide +kernel
theorem dX8_isAnyTo_24 : decode cX8_isAnyTo 24 = .ok (.iinc 3 1, 3) := by decide +kernel
theorem dX8_isAnyTo_27 : decode cX8_isAnyTo 27 = .ok (.goto (-25), 3) := by decide +kernel
theorem dX8_isAnyTo_30 : decode cX8_isAnyTo 30 = .ok (.iconst 0, 1) := by decide +kernel
theorem dX8_isAnyTo_31 : decode cX8_isAnyTo 31 = .ok (.ireturn, 1) := by decide +kernel
theorem dX8_reachOf_0 : decode cX8_reachOf 0 = .ok (.iconst 0, 1) := by decide +kernel
theorem dX8_reachOf_1 : decode cX8_reachOf 1 = .ok (.istore_n 2, 1) := by decide +kernel
theorem dX8_reachOf_2 : decode cX8_reachOf 2 = .ok (.iconst 0, 1) := by decide +kernel
theorem dX8_reachOf_3 : decode cX8_reachOf 3 = .ok (.istore_n 3, 1) := by decide +kernel
theorem dX8_reachOf_4 : decode cX8_reachOf 4 = .ok (.iload_n 3, 1) := by decide +kernel
theorem dX8_reachOf_5 : decode cX8_reachOf 5 = .ok (.aload_n 0, 1) := by decide +kernel
theorem dX8_reachOf_6 : decode cX8_reachOf 6 = .ok (.iload_n 1, 1) := by decide +kernel
theorem dX8_reachOf_7 : decode cX8_reachOf 7 = .ok (.invokevirtual 217, 3) := by decide +kernel
theorem dX8_reachOf_10 : decode cX8_reachOf 10 = .ok (.if_icmp .gt 21, 3) := by decide +kernel
theorem dX8_reachOf_13 : decode cX8_reachOf 13 = .ok (.aload_n 0, 1) := by decide +kernel
theorem dX8_reachOf_14 : decode cX8_reachOf 14 = .ok (.iload_n 1, 1) := by decide +kernel
theorem dX8_reachOf_15 : decode cX8_reachOf 15 = .ok (.iload_n 3, 1) := by decide +kernel
theorem dX8_reachOf_16 : decode cX8_reachOf 16 = .ok (.invokevirtual 396, 3) := by decide +kernel
theorem dX8_reachOf_19 : decode cX8_reachOf 19 = .ok (.ifCond .eq 6, 3) := by decide +kernel
theorem dX8_reachOf_22 : decode cX8_reachOf 22 = .ok (.iinc 2 1, 3) := by decide +kernel
theorem dX8_reachOf_25 : decode cX8_reachOf 25 = .ok (.iinc 3 1, 3) := by decide +kernel
theorem dX8_reachOf_28 : decode cX8_reachOf 28 = .ok (.goto (-24), 3) := by decide +kernel
theorem dX8_reachOf_31 : decode cX8_reachOf 31 = .ok (.iload_n 2, 1) := by decide +kernel
theorem dX8_reachOf_32 : decode cX8_reachOf 32 = .ok (.ireturn, 1) := by decide +kernel
theorem dX8_reach_0 : decode cX8_reach 0 = .ok (.aload_n 0, 1) := by decide +kernel
theorem dX8_reach_1 : decode cX8_reach 1 = .ok (.iload_n 1, 1) := by decide +kernel
theorem dX8_reach_2 : decode cX8_reach 2 = .ok (.invokevirtual 262, 3) := by decide +kernel
theorem dX8_reach_5 : decode cX8_reach 5 = .ok (.ifCond .eq 11, 3) := by decide +kernel
theorem dX8_reach_8 : decode cX8_reach 8 = .ok (.aload_n 0, 1) := by decide +kernel
theorem dX8_reach_9 : decode cX8_reach 9 = .ok (.iload_n 1, 1) := by decide +kernel
theorem dX8_reach_10 : decode cX8_reach 10 = .ok (.invokevirtual 399, 3) := by decide +kernel
theorem dX8_reach_13 : decode cX8_reach 13 = .ok (.goto 4, 3) := by decide +kernel
theorem dX8_reach_16 : decode cX8_reach 16 = .ok (.iconst (-1), 1) := by decide +kernel
theorem dX8_reach_17 : decode cX8_reach 17 = .ok (.ireturn, 1) := by decide +kernel
theorem dX8_newest_0 : decode cX8_newest 0 = .ok (.aload_n 0, 1) := by decide +kernel
theorem dX8_newest_1 : decode cX8_newest 1 = .ok (.iload_n 1, 1) := by decide +kernel
theorem dX8_newest_2 : decode cX8_newest 2 = .ok (.invokevirtual 262, 3) := by decide +kernel
theorem dX8_newest_5 : decode cX8_newest 5 = .ok (.ifCond .ne 5, 3) := by decide +kernel
theorem dX8_newest_8 : decode cX8_newest 8 = .ok (.iconst (-1), 1) := by decide +kernel
theorem dX8_newest_9 : decode cX8_newest 9 = .ok (.ireturn, 1) := by decide +kernel
theorem dX8_newest_10 : decode cX8_newest 10 = .ok (.aload_n 0, 1) := by decide +kernel
theorem dX8_newest_11 : decode cX8_newest 11 = .ok (.iload_n 1, 1) := by decide +kernel
theorem dX8_newest_12 : decode cX8_newest 12 = .ok (.invokevirtual 217, 3) := by decide +kernel
theorem dX8_newest_15 : decode cX8_newest 15 = .ok (.istore_n 2, 1) := by decide +kernel
theorem dX8_newest_16 : decode cX8_newest 16 = .ok (.iload_n 2, 1) := by decide +kernel
theorem dX8_newest_17 : decode cX8_newest 17 = .ok (.ifCond .lt 18, 3) := by decide +kernel
theorem dX8_newest_20 : decode cX8_newest 20 = .ok (.aload_n 0, 1) := by decide +kernel
theorem dX8_newest_21 : decode cX8_newest 21 = .ok (.iload_n 1, 1) := by decide +kernel
theorem dX8_newest_22 : decode cX8_newest 22 = .ok (.iload_n 2, 1) := by decide +kernel
theorem dX8_newest_23 : decode cX8_newest 23 = .ok (.invokevirtual 396, 3) := by decide +kernel
theorem dX8_newest_26 : decode cX8_newest 26 = .ok (.ifCond .ne 9, 3) := by decide +kernel
theorem dX8_newest_29 : decode cX8_newest 29 = .ok (.iinc 2 (-1), 3) := by decide +kernel
theorem dX8_newest_32 : decode cX8_newest 32 = .ok (.goto (-16), 3) := by decide +kernel
theorem dX8_newest_35 : decode cX8_newest 35 = .ok (.iload_n 2, 1) := by decide +kernel
theorem dX8_newest_36 : decode cX8_newest 36 = .ok (.ifCond .ge 8, 3) := by decide +kernel
theorem dX8_newest_39 : decode cX8_newest 39 = .ok (.bipush (-2), 2) := by decide +kernel
theorem dX8_newest_41 : decode cX8_newest 41 = .ok (.goto 4, 3) := by decide +kernel
theorem dX8_newest_44 : decode cX8_newest 44 = .ok (.iload_n 2, 1) := by decide +kernel
theorem dX8_newest_45 : decode cX8_newest 45 = .ok (.ireturn, 1) := by decide +kernel
theorem dX8_hurts_0 : decode cX8_hurts 0 = .ok (.aload_n 0, 1) := by decide +kernel
theorem dX8_hurts_1 : decode cX8_hurts 1 = .ok (.iload_n 1, 1) := by decide +kernel
theorem dX8_hurts_2 : decode cX8_hurts 2 = .ok (.iload_n 2, 1) := by decide +kernel
theorem dX8_hurts_3 : decode cX8_hurts 3 = .ok (.invokevirtual 352, 3) := by decide +kernel
theorem dX8_hurts_6 : decode cX8_hurts 6 = .ok (.ifCond .eq 12, 3) := by decide +kernel
theorem dX8_hurts_9 : decode cX8_hurts 9 = .ok (.aload_n 0, 1) := by decide +kernel
theorem dX8_hurts_10 : decode cX8_hurts 10 = .ok (.iload_n 1, 1) := by decide +kernel
theorem dX8_hurts_11 : decode cX8_hurts 11 = .ok (.iload_n 2, 1) := by decide +kernel
theorem dX8_hurts_12 : decode cX8_hurts 12 = .ok (.invokevirtual 295, 3) := by decide +kernel
theorem dX8_hurts_15 : decode cX8_hurts 15 = .ok (.ifCond .ne 5, 3) := by decide +kernel
theorem dX8_hurts_18 : decode cX8_hurts 18 = .ok (.iconst (-1), 1) := by decide +kernel
theorem dX8_hurts_19 : decode cX8_hurts 19 = .ok (.ireturn, 1) := by decide +kernel
theorem dX8_hurts_20 : decode cX8_hurts 20 = .ok (.sipush 420, 3) := by decide +kernel
theorem dX8_hurts_23 : decode cX8_hurts 23 = .ok (.bipush 120, 2) := by decide +kernel
theorem dX8_hurts_25 : decode cX8_hurts 25 = .ok (.iload_n 1, 1) := by decide +kernel
theorem dX8_hurts_26 : decode cX8_hurts 26 = .ok (.imul, 1) := by decide +kernel
theorem dX8_hurts_27 : decode cX8_hurts 27 = .ok (.iadd, 1) := by decide +kernel
theorem dX8_hurts_28 : decode cX8_hurts 28 = .ok (.iload_n 2, 1) := by decide +kernel
theorem dX8_hurts_29 : decode cX8_hurts 29 = .ok (.iadd, 1) := by decide +kernel
theorem dX8_hurts_30 : decode cX8_hurts 30 = .ok (.istore_n 3, 1) := by decide +kernel
theorem dX8_hurts_31 : decode cX8_hurts 31 = .ok (.aload_n 0, 1) := by decide +kernel
theorem dX8_hurts_32 : decode cX8_hurts 32 = .ok (.getfield 73, 3) := by decide +kernel
theorem dX8_hurts_35 : decode cX8_hurts 35 = .ok (.iload_n 3, 1) := by decide +kernel
theorem dX8_hurts_36 : decode cX8_hurts 36 = .ok (.iaload, 1) := by decide +kernel
theorem dX8_hurts_37 : decode cX8_hurts 37 = .ok (.istore 4, 2) := by decide +kernel
theorem dX8_hurts_39 : decode cX8_hurts 39 = .ok (.aload_n 0, 1) := by decide +kernel
theorem dX8_hurts_40 : decode cX8_hurts 40 = .ok (.aload_n 0, 1) := by decide +kernel
theorem dX8_hurts_41 : decode cX8_hurts 41 = .ok (.getfield 73, 3) := by decide +kernel
theorem dX8_hurts_44 : decode cX8_hurts 44 = .ok (.iconst 3, 1) := by decide +kernel
theorem dX8_hurts_45 : decode cX8_hurts 45 = .ok (.iaload, 1) := by decide +kernel
theorem dX8_hurts_46 : decode cX8_hurts 46 = .ok (.invokevirtual 399, 3) := by decide +kernel
theorem dX8_hurts_49 : decode cX8_hurts 49 = .ok (.istore 5, 2) := by decide +kernel
theorem dX8_hurts_51 : decode cX8_hurts 51 = .ok (.aload_n 0, 1) := by decide +kernel
theorem dX8_hurts_52 : decode cX8_hurts 52 = .ok (.getfield 73, 3) := by decide +kernel
theorem dX8_hurts_55 : decode cX8_hurts 55 = .ok (.iload_n 3, 1) := by decide +kernel
theorem dX8_hurts_56 : decode cX8_hurts 56 = .ok (.iconst 0, 1) := by decide +kernel
theorem dX8_hurts_57 : decode cX8_hurts 57 = .ok (.iastore, 1) := by decide +kernel
theorem dX8_hurts_58 : decode cX8_hurts 58 = .ok (.aload_n 0, 1) := by decide +kernel
theorem dX8_hurts_59 : decode cX8_hurts 59 = .ok (.aload_n 0, 1) := by decide +kernel
theorem dX8_hurts_60 : decode cX8_hurts 60 = .ok (.getfield 73, 3) := by decide +kernel
theorem dX8_hurts_63 : decode cX8_hurts 63 = .ok (.iconst 3, 1) := by decide +kernel
theorem dX8_hurts_64 : decode cX8_hurts 64 = .ok (.iaload, 1) := by decide +kernel
theorem dX8_hurts_65 : decode cX8_hurts 65 = .ok (.invokevirtual 399, 3) := by decide +kernel
theorem dX8_hurts_68 : decode cX8_hurts 68 = .ok (.istore 6, 2) := by decide +kernel
theorem dX8_hurts_70 : decode cX8_hurts 70 = .ok (.aload_n 0, 1) := by decide +kernel
theorem dX8_hurts_71 : decode cX8_hurts 71 = .ok (.getfield 73, 3) := by decide +kernel
theorem dX8_hurts_74 : decode cX8_hurts 74 = .ok (.iload_n 3, 1) := by decide +kernel
theorem dX8_hurts_75 : decode cX8_hurts 75 = .ok (.iload 4, 2) := by decide +kernel
theorem dX8_hurts_77 : decode cX8_hurts 77 = .ok (.iastore, 1) := by decide +kernel
theorem dX8_hurts_78 : decode cX8_hurts 78 = .ok (.iload 5, 2) := by decide +kernel
theorem dX8_hurts_80 : decode cX8_hurts 80 = .ok (.iload 6, 2) := by decide +kernel
theorem dX8_hurts_82 : decode cX8_hurts 82 = .ok (.isub, 1) := by decide +kernel
theorem dX8_hurts_83 : decode cX8_hurts 83 = .ok (.ireturn, 1) := by decide +kernel
theorem dX8_hold_0 : decode cX8_hold 0 = .ok (.iload_n 1, 1) := by decide +kernel
theorem dX8_hold_1 : decode cX8_hold 1 = .ok (.iconst 0, 1) := by decide +kernel
theorem dX8_hold_2 : decode cX8_hold 2 = .ok (.iconst 2, 1) := by decide +kernel
theorem dX8_hold_3 : decode cX8_hold 3 = .ok (.invokestatic 194, 3) := by decide +kernel
theorem dX8_hold_6 : decode cX8_hold 6 = .ok (.ifCond .ne 5, 3) := by decide +kernel
theorem dX8_hold_9 : decode cX8_hold 9 = .ok (.iconst 0, 1) := by decide +kernel
theorem dX8_hold_10 : decode cX8_hold 10 = .ok (.ireturn, 1) := by decide +kernel
theorem dX8_hold_11 : decode cX8_hold 11 = .ok (.aload_n 0, 1) := by decide +kernel
theorem dX8_hold_12 : decode cX8_hold 12 = .ok (.getfield 82, 3) := by decide +kernel
theorem dX8_hold_15 : decode cX8_hold 15 = .ok (.iload_n 1, 1) := by decide +kernel
theorem dX8_hold_16 : decode cX8_hold 16 = .ok (.iconst 1, 1) := by decide +kernel
theorem dX8_hold_17 : decode cX8_hold 17 = .ok (.bastore, 1) := by decide +kernel
theorem dX8_hold_18 : decode cX8_hold 18 = .ok (.iconst 0, 1) := by decide +kernel
theorem dX8_hold_19 : decode cX8_hold 19 = .ok (.istore_n 2, 1) := by decide +kernel
theorem dX8_hold_20 : decode cX8_hold 20 = .ok (.iload_n 2, 1) := by decide +kernel
theorem dX8_hold_21 : decode cX8_hold 21 = .ok (.sipush 7164, 3) := by decide +kernel
theorem dX8_hold_24 : decode cX8_hold 24 = .ok (.if_icmp .ge 27, 3) := by decide +kernel
theorem dX8_hold_27 : decode cX8_hold 27 = .ok (.aload_n 0, 1) := by decide +kernel
theorem dX8_hold_28 : decode cX8_hold 28 = .ok (.getfield 86, 3) := by decide +kernel
theorem dX8_hold_31 : decode cX8_hold 31 = .ok (.sipush 7164, 3) := by decide +kernel
theorem dX8_hold_34 : decode cX8_hold 34 = .ok (.iload_n 1, 1) := by decide +kernel
theorem dX8_hold_35 : decode cX8_hold 35 = .ok (.imul, 1) := by decide +kernel
theorem dX8_hold_36 : decode cX8_hold 36 = .ok (.iload_n 2, 1) := by decide +kernel
theorem dX8_hold_37 : decode cX8_hold 37 = .ok (.iadd, 1) := by decide +kernel
theorem dX8_hold_38 : decode cX8_hold 38 = .ok (.aload_n 0, 1) := by decide +kernel
theorem dX8_hold_39 : decode cX8_hold 39 = .ok (.getfield 73, 3) := by decide +kernel
theorem dX8_hold_42 : decode cX8_hold 42 = .ok (.iload_n 2, 1) := by decide +kernel
theorem dX8_hold_43 : decode cX8_hold 43 = .ok (.iaload, 1) := by decide +kernel
theorem dX8_hold_44 : decode cX8_hold 44 = .ok (.iastore, 1) := by decide +kernel
theorem dX8_hold_45 : decode cX8_hold 45 = .ok (.iinc 2 1, 3) := by decide +kernel
theorem dX8_hold_48 : decode cX8_hold 48 = .ok (.goto (-28), 3) := by decide +kernel
theorem dX8_hold_51 : decode cX8_hold 51 = .ok (.iconst 1, 1) := by decide +kernel
theorem dX8_hold_52 : decode cX8_hold 52 = .ok (.ireturn, 1) := by decide +kernel
theorem dX8_again_0 : decode cX8_again 0 = .ok (.iload_n 1, 1) := by decide +kernel
theorem dX8_again_1 : decode cX8_again 1 = .ok (.iconst 0, 1) := by decide +kernel
theorem dX8_again_2 : decode cX8_again 2 = .ok (.iconst 2, 1) := by decide +kernel
theorem dX8_again_3 : decode cX8_again 3 = .ok (.invokestatic 194, 3) := by decide +kernel
theorem dX8_again_6 : decode cX8_again 6 = .ok (.ifCond .eq 12, 3) := by decide +kernel
theorem dX8_again_9 : decode cX8_again 9 = .ok (.aload_n 0, 1) := by decide +kernel
theorem dX8_again_10 : decode cX8_again 10 = .ok (.getfield 82, 3) := by decide +kernel
theorem dX8_again_13 : decode cX8_again 13 = .ok (.iload_n 1, 1) := by decide +kernel
theorem dX8_again_14 : decode cX8_again 14 = .ok (.baload, 1) := by decide +kernel
theorem dX8_again_15 : decode cX8_again 15 = .ok (.ifCond .ne 5, 3) := by decide +kernel
theorem dX8_again_18 : decode cX8_again 18 = .ok (.iconst 0, 1) := by decide +kernel
theorem dX8_again_19 : decode cX8_again 19 = .ok (.ireturn, 1) := by decide +kernel
theorem dX8_again_20 : decode cX8_again 20 = .ok (.iconst 0, 1) := by decide +kernel
theorem dX8_again_21 : decode cX8_again 21 = .ok (.istore_n 2, 1) := by decide +kernel
theorem dX8_again_22 : decode cX8_again 22 = .ok (.iload_n 2, 1) := by decide +kernel
theorem dX8_again_23 : decode cX8_again 23 = .ok (.sipush 7164, 3) := by decide +kernel
theorem dX8_again_26 : decode cX8_again 26 = .ok (.if_icmp .ge 27, 3) := by decide +kernel
theorem dX8_again_29 : decode cX8_again 29 = .ok (.aload_n 0, 1) := by decide +kernel
theorem dX8_again_30 : decode cX8_again 30 = .ok (.getfield 73, 3) := by decide +kernel
theorem dX8_again_33 : decode cX8_again 33 = .ok (.iload_n 2, 1) := by decide +kernel
theorem dX8_again_34 : decode cX8_again 34 = .ok (.aload_n 0, 1) := by decide +kernel
theorem dX8_again_35 : decode cX8_again 35 = .ok (.getfield 86, 3) := by decide +kernel
theorem dX8_again_38 : decode cX8_again 38 = .ok (.sipush 7164, 3) := by decide +kernel
theorem dX8_again_41 : decode cX8_again 41 = .ok (.iload_n 1, 1) := by decide +kernel
theorem dX8_again_42 : decode cX8_again 42 = .ok (.imul, 1) := by decide +kernel
theorem dX8_again_43 : decode cX8_again 43 = .ok (.iload_n 2, 1) := by decide +kernel
theorem dX8_again_44 : decode cX8_again 44 = .ok (.iadd, 1) := by decide +kernel
theorem dX8_again_45 : decode cX8_again 45 = .ok (.iaload, 1) := by decide +kernel
theorem dX8_again_46 : decode cX8_again 46 = .ok (.iastore, 1) := by decide +kernel
theorem dX8_again_47 : decode cX8_again 47 = .ok (.iinc 2 1, 3) := by decide +kernel
theorem dX8_again_50 : decode cX8_again 50 = .ok (.goto (-28), 3) := by decide +kernel
theorem dX8_again_53 : decode cX8_again 53 = .ok (.iconst 1, 1) := by decide +kernel
theorem dX8_again_54 : decode cX8_again 54 = .ok (.ireturn, 1) := by decide +kernel
theorem dX8_copyBits_0 : decode cX8_copyBits 0 = .ok (.iconst 0, 1) := by decide +kernel
theorem dX8_copyBits_1 : decode cX8_copyBits 1 = .ok (.istore_n 2, 1) := by decide +kernel
theorem dX8_copyBits_2 : decode cX8_copyBits 2 = .ok (.iconst 0, 1) := by decide +kernel
theorem dX8_copyBits_3 : decode cX8_copyBits 3 = .ok (.istore_n 3, 1) := by decide +kernel
theorem dX8_copyBits_4 : decode cX8_copyBits 4 = .ok (.iload_n 3, 1) := by decide +kernel
theorem dX8_copyBits_5 : decode cX8_copyBits 5 = .ok (.aload_n 0, 1) := by decide +kernel
theorem dX8_copyBits_6 : decode cX8_copyBits 6 = .ok (.getfield 73, 3) := by decide +kernel
theorem dX8_copyBits_9 : decode cX8_copyBits 9 = .ok (.iconst 5, 1) := by decide +kernel
theorem dX8_copyBits_10 : decode cX8_copyBits 10 = .ok (.iaload, 1) := by decide +kernel
theorem dX8_copyBits_11 : decode cX8_copyBits 11 = .ok (.if_icmp .ge 40, 3) := by decide +kernel
theorem dX8_copyBits_14 : decode cX8_copyBits 14 = .ok (.iload_n 1, 1) := by decide +kernel
theorem dX8_copyBits_15 : decode cX8_copyBits 15 = .ok (.ifCond .ne 14, 3) := by decide +kernel
theorem dX8_copyBits_18 : decode cX8_copyBits 18 = .ok (.aload_n 0, 1) := by decide +kernel
theorem dX8_copyBits_19 : decode cX8_copyBits 19 = .ok (.iload_n 3, 1) := by decide +kernel
theorem dX8_copyBits_20 : decode cX8_copyBits 20 = .ok (.invokevirtual 307, 3) := by decide +kernel
theorem dX8_copyBits_23 : decode cX8_copyBits 23 = .ok (.ifCond .eq 22, 3) := by decide +kernel
theorem dX8_copyBits_26 : decode cX8_copyBits 26 = .ok (.goto 13, 3) := by decide +kernel
theorem dX8_copyBits_29 : decode cX8_copyBits 29 = .ok (.aload_n 0, 1) := by decide +kernel
theorem dX8_copyBits_30 : decode cX8_copyBits 30 = .ok (.iload_n 3, 1) := by decide +kernel
theorem dX8_copyBits_31 : decode cX8_copyBits 31 = .ok (.iload_n 1, 1) := by decide +kernel
theorem dX8_copyBits_32 : decode cX8_copyBits 32 = .ok (.invokevirtual 286, 3) := by decide +kernel
theorem dX8_copyBits_35 : decode cX8_copyBits 35 = .ok (.iconst 1, 1) := by decide +kernel
theorem dX8_copyBits_36 : decode cX8_copyBits 36 = .ok (.if_icmp .ne 9, 3) := by decide +kernel
theorem dX8_copyBits_39 : decode cX8_copyBits 39 = .ok (.iload_n 2, 1) := by decide +kernel
theorem dX8_copyBits_40 : decode cX8_copyBits 40 = .ok (.iconst 1, 1) := by decide +kernel
theorem dX8_copyBits_41 : decode cX8_copyBits 41 = .ok (.iload_n 3, 1) := by decide +kernel
theorem dX8_copyBits_42 : decode cX8_copyBits 42 = .ok (.ishl, 1) := by decide +kernel
theorem dX8_copyBits_43 : decode cX8_copyBits 43 = .ok (.ior, 1) := by decide +kernel
theorem dX8_copyBits_44 : decode cX8_copyBits 44 = .ok (.istore_n 2, 1) := by decide +kernel
theorem dX8_copyBits_45 : decode cX8_copyBits 45 = .ok (.iinc 3 1, 3) := by decide +kernel
theorem dX8_copyBits_48 : decode cX8_copyBits 48 = .ok (.goto (-44), 3) := by decide +kernel
theorem dX8_copyBits_51 : decode cX8_copyBits 51 = .ok (.iload_n 2, 1) := by decide +kernel
theorem dX8_copyBits_52 : decode cX8_copyBits 52 = .ok (.ireturn, 1) := by decide +kernel
theorem dX8_count_0 : decode cX8_count 0 = .ok (.iconst 0, 1) := by decide +kernel
theorem dX8_count_1 : decode cX8_count 1 = .ok (.istore_n 2, 1) := by decide +kernel
theorem dX8_count_2 : decode cX8_count 2 = .ok (.iload_n 1, 1) := by decide +kernel
theorem dX8_count_3 : decode cX8_count 3 = .ok (.tableswitch 331 0 15 #[77, 84, 91, 98, 105, 116, 123, 130, 136, 141, 172, 217, 225, 231, 237, 301], 77) := by decide +kernel
theorem dX8_count_80 : decode cX8_count 80 = .ok (.aload_n 0, 1) := by decide +kernel
theorem dX8_count_81 : decode cX8_count 81 = .ok (.getfield 73, 3) := by decide +kernel
theorem dX8_count_84 : decode cX8_count 84 = .ok (.iconst 0, 1) := by decide +kernel
theorem dX8_count_85 : decode cX8_count 85 = .ok (.iaload, 1) := by decide +kernel
theorem dX8_count_86 : decode cX8_count 86 = .ok (.ireturn, 1) := by decide +kernel
theorem dX8_count_87 : decode cX8_count 87 = .ok (.aload_n 0, 1) := by decide +kernel
theorem dX8_count_88 : decode cX8_count 88 = .ok (.getfield 73, 3) := by decide +kernel
theorem dX8_count_91 : decode cX8_count 91 = .ok (.iconst 1, 1) := by decide +kernel
theorem dX8_count_92 : decode cX8_count 92 = .ok (.iaload, 1) := by decide +kernel
theorem dX8_count_93 : decode cX8_count 93 = .ok (.ireturn, 1) := by decide +kernel
theorem dX8_count_94 : decode cX8_count 94 = .ok (.aload_n 0, 1) := by decide +kernel
theorem dX8_count_95 : decode cX8_count 95 = .ok (.getfield 73, 3) := by decide +kernel
theorem dX8_count_98 : decode cX8_count 98 = .ok (.iconst 2, 1) := by decide +kernel
theorem dX8_count_99 : decode cX8_count 99 = .ok (.iaload, 1) := by decide +kernel
theorem dX8_count_100 : decode cX8_count 100 = .ok (.ireturn, 1) := by decide +kernel
theorem dX8_count_101 : decode cX8_count 101 = .ok (.aload_n 0, 1) := by decide +kernel
theorem dX8_count_102 : decode cX8_count 102 = .ok (.getfield 73, 3) := by decide +kernel
theorem dX8_count_105 : decode cX8_count 105 = .ok (.iconst 3, 1) := by decide +kernel
theorem dX8_count_106 : decode cX8_count 106 = .ok (.iaload, 1) := by decide +kernel
theorem dX8_count_107 : decode cX8_count 107 = .ok (.ireturn, 1) := by decide +kernel
theorem dX8_count_108 : decode cX8_count 108 = .ok (.aload_n 0, 1) := by decide +kernel
theorem dX8_count_109 : decode cX8_count 109 = .ok (.aload_n 0, 1) := by decide +kernel
theorem dX8_count_110 : decode cX8_count 110 = .ok (.getfield 73, 3) := by decide +kernel
theorem dX8_count_113 : decode cX8_count 113 = .ok (.iconst 3, 1) := by decide +kernel
theorem dX8_count_114 : decode cX8_count 114 = .ok (.iaload, 1) := by decide +kernel
theorem dX8_count_115 : decode cX8_count 115 = .ok (.invokevirtual 217, 3) := by decide +kernel
theorem dX8_count_118 : decode cX8_count 118 = .ok (.ireturn, 1) := by decide +kernel
theorem dX8_count_119 : decode cX8_count 119 = .ok (.aload_n 0, 1) := by decide +kernel
theorem dX8_count_120 : decode cX8_count 120 = .ok (.getfield 73, 3) := by decide +kernel
theorem dX8_count_123 : decode cX8_count 123 = .ok (.iconst 4, 1) := by decide +kernel
theorem dX8_count_124 : decode cX8_count 124 = .ok (.iaload, 1) := by decide +kernel
theorem dX8_count_125 : decode cX8_count 125 = .ok (.ireturn, 1) := by decide +kernel
theorem dX8_count_126 : decode cX8_count 126 = .ok (.aload_n 0, 1) := by decide +kernel
theorem dX8_count_127 : decode cX8_count 127 = .ok (.getfield 73, 3) := by decide +kernel
theorem dX8_count_130 : decode cX8_count 130 = .ok (.iconst 5, 1) := by decide +kernel
theorem dX8_count_131 : decode cX8_count 131 = .ok (.iaload, 1) := by decide +kernel
theorem dX8_count_132 : decode cX8_count 132 = .ok (.ireturn, 1) := by decide +kernel
theorem dX8_count_133 : decode cX8_count 133 = .ok (.aload_n 0, 1) := by decide +kernel
theorem dX8_count_134 : decode cX8_count 134 = .ok (.iconst 0, 1) := by decide +kernel
theorem dX8_count_135 : decode cX8_count 135 = .ok (.invokevirtual 402, 3) := by decide +kernel
theorem dX8_count_138 : decode cX8_count 138 = .ok (.ireturn, 1) := by decide +kernel
theorem dX8_count_139 : decode cX8_count 139 = .ok (.aload_n 0, 1) := by decide +kernel
theorem dX8_count_140 : decode cX8_count 140 = .ok (.getfield 97, 3) := by decide +kernel
theorem dX8_count_143 : decode cX8_count 143 = .ok (.ireturn, 1) := by decide +kernel
theorem dX8_count_144 : decode cX8_count 144 = .ok (.sipush 420, 3) := by decide +kernel
theorem dX8_count_147 : decode cX8_count 147 = .ok (.istore_n 3, 1) := by decide +kernel
theorem dX8_count_148 : decode cX8_count 148 = .ok (.iload_n 3, 1) := by decide +kernel
theorem dX8_count_149 : decode cX8_count 149 = .ok (.sipush 1380, 3) := by decide +kernel
theorem dX8_count_152 : decode cX8_count 152 = .ok (.if_icmp .ge 21, 3) := by decide +kernel
theorem dX8_count_155 : decode cX8_count 155 = .ok (.aload_n 0, 1) := by decide +kernel
theorem dX8_count_156 : decode cX8_count 156 = .ok (.getfield 73, 3) := by decide +kernel
theorem dX8_count_159 : decode cX8_count 159 = .ok (.iload_n 3, 1) := by decide +kernel
theorem dX8_count_160 : decode cX8_count 160 = .ok (.iaload, 1) := by decide +kernel
theorem dX8_count_161 : decode cX8_count 161 = .ok (.ifCond .le 6, 3) := by decide +kernel
theorem dX8_count_164 : decode cX8_count 164 = .ok (.iinc 2 1, 3) := by decide +kernel
theorem dX8_count_167 : decode cX8_count 167 = .ok (.iinc 3 1, 3) := by decide +kernel
theorem dX8_count_170 : decode cX8_count 170 = .ok (.goto (-22), 3) := by decide +kernel
theorem dX8_count_173 : decode cX8_count 173 = .ok (.iload_n 2, 1) := by decide +kernel
theorem dX8_count_174 : decode cX8_count 174 = .ok (.ireturn, 1) := by decide +kernel
theorem dX8_count_175 : decode cX8_count 175 = .ok (.aload_n 0, 1) := by decide +kernel
theorem dX8_count_176 : decode cX8_count 176 = .ok (.getfield 82, 3) := by decide +kernel
theorem dX8_count_179 : decode cX8_count 179 = .ok (.iconst 0, 1) := by decide +kernel
theorem dX8_count_180 : decode cX8_count 180 = .ok (.baload, 1) := by decide +kernel
theorem dX8_count_181 : decode cX8_count 181 = .ok (.ifCond .eq 7, 3) := by decide +kernel
theorem dX8_count_184 : decode cX8_count 184 = .ok (.iconst 1, 1) := by decide +kernel
theorem dX8_count_185 : decode cX8_count 185 = .ok (.goto 4, 3) := by decide +kernel
theorem dX8_count_188 : decode cX8_count 188 = .ok (.iconst 0, 1) := by decide +kernel
theorem dX8_count_189 : decode cX8_count 189 = .ok (.aload_n 0, 1) := by decide +kernel
theorem dX8_count_190 : decode cX8_count 190 = .ok (.getfield 82, 3) := by decide +kernel
theorem dX8_count_193 : decode cX8_count 193 = .ok (.iconst 1, 1) := by decide +kernel
theorem dX8_count_194 : decode cX8_count 194 = .ok (.baload, 1) := by decide +kernel
theorem dX8_count_195 : decode cX8_count 195 = .ok (.ifCond .eq 7, 3) := by decide +kernel
theorem dX8_count_198 : decode cX8_count 198 = .ok (.iconst 1, 1) := by decide +kernel
theorem dX8_count_199 : decode cX8_count 199 = .ok (.goto 4, 3) := by decide +kernel
theorem dX8_count_202 : decode cX8_count 202 = .ok (.iconst 0, 1) := by decide +kernel
theorem dX8_count_203 : decode cX8_count 203 = .ok (.iadd, 1) := by decide +kernel
theorem dX8_count_204 : decode cX8_count 204 = .ok (.aload_n 0, 1) := by decide +kernel
theorem dX8_count_205 : decode cX8_count 205 = .ok (.getfield 82, 3) := by decide +kernel
theorem dX8_count_208 : decode cX8_count 208 = .ok (.iconst 2, 1) := by decide +kernel
theorem dX8_count_209 : decode cX8_count 209 = .ok (.baload, 1) := by decide +kernel
theorem dX8_count_210 : decode cX8_count 210 = .ok (.ifCond .eq 7, 3) := by decide +kernel
theorem dX8_count_213 : decode cX8_count 213 = .ok (.iconst 1, 1) := by decide +kernel
theorem dX8_count_214 : decode cX8_count 214 = .ok (.goto 4, 3) := by decide +kernel
theorem dX8_count_217 : decode cX8_count 217 = .ok (.iconst 0, 1) := by decide +kernel
theorem dX8_count_218 : decode cX8_count 218 = .ok (.iadd, 1) := by decide +kernel
theorem dX8_count_219 : decode cX8_count 219 = .ok (.ireturn, 1) := by decide +kernel
theorem dX8_count_220 : decode cX8_count 220 = .ok (.aload_n 0, 1) := by decide +kernel
theorem dX8_count_221 : decode cX8_count 221 = .ok (.getfield 73, 3) := by decide +kernel
theorem dX8_count_224 : decode cX8_count 224 = .ok (.bipush 6, 2) := by decide +kernel
theorem dX8_count_226 : decode cX8_count 226 = .ok (.iaload, 1) := by decide +kernel
theorem dX8_count_227 : decode cX8_count 227 = .ok (.ireturn, 1) := by decide +kernel
theorem dX8_count_228 : decode cX8_count 228 = .ok (.aload_n 0, 1) := by decide +kernel
theorem dX8_count_229 : decode cX8_count 229 = .ok (.iconst 2, 1) := by decide +kernel
theorem dX8_count_230 : decode cX8_count 230 = .ok (.invokevirtual 402, 3) := by decide +kernel
theorem dX8_count_233 : decode cX8_count 233 = .ok (.ireturn, 1) := by decide +kernel
theorem dX8_count_234 : decode cX8_count 234 = .ok (.aload_n 0, 1) := by decide +kernel
theorem dX8_count_235 : decode cX8_count 235 = .ok (.iconst 3, 1) := by decide +kernel
theorem dX8_count_236 : decode cX8_count 236 = .ok (.invokevirtual 402, 3) := by decide +kernel
theorem dX8_count_239 : decode cX8_count 239 = .ok (.ireturn, 1) := by decide +kernel
theorem dX8_count_240 : decode cX8_count 240 = .ok (.iconst 0, 1) := by decide +kernel
theorem dX8_count_241 : decode cX8_count 241 = .ok (.istore_n 3, 1) := by decide +kernel
theorem dX8_count_242 : decode cX8_count 242 = .ok (.iload_n 3, 1) := by decide +kernel
theorem dX8_count_243 : decode cX8_count 243 = .ok (.aload_n 0, 1) := by decide +kernel
theorem dX8_count_244 : decode cX8_count 244 = .ok (.getfield 73, 3) := by decide +kernel
theorem dX8_count_247 : decode cX8_count 247 = .ok (.iconst 2, 1) := by decide +kernel
theorem dX8_count_248 : decode cX8_count 248 = .ok (.iaload, 1) := by decide +kernel
theorem dX8_count_249 : decode cX8_count 249 = .ok (.if_icmp .ge 53, 3) := by decide +kernel
theorem dX8_count_252 : decode cX8_count 252 = .ok (.aload_n 0, 1) := by decide +kernel
theorem dX8_count_253 : decode cX8_count 253 = .ok (.iload_n 3, 1) := by decide +kernel
theorem dX8_count_254 : decode cX8_count 254 = .ok (.invokevirtual 265, 3) := by decide +kernel
theorem dX8_count_257 : decode cX8_count 257 = .ok (.iconst 1, 1) := by decide +kernel
theorem dX8_count_258 : decode cX8_count 258 = .ok (.iadd, 1) := by decide +kernel
theorem dX8_count_259 : decode cX8_count 259 = .ok (.istore 4, 2) := by decide +kernel
theorem dX8_count_261 : decode cX8_count 261 = .ok (.iload 4, 2) := by decide +kernel
theorem dX8_count_263 : decode cX8_count 263 = .ok (.aload_n 0, 1) := by decide +kernel
theorem dX8_count_264 : decode cX8_count 264 = .ok (.iload_n 3, 1) := by decide +kernel
theorem dX8_count_265 : decode cX8_count 265 = .ok (.invokevirtual 217, 3) := by decide +kernel
theorem dX8_count_268 : decode cX8_count 268 = .ok (.if_icmp .gt 28, 3) := by decide +kernel
theorem dX8_count_271 : decode cX8_count 271 = .ok (.aload_n 0, 1) := by decide +kernel
theorem dX8_count_272 : decode cX8_count 272 = .ok (.getfield 73, 3) := by decide +kernel
theorem dX8_count_275 : decode cX8_count 275 = .ok (.aload_n 0, 1) := by decide +kernel
theorem dX8_count_276 : decode cX8_count 276 = .ok (.iload_n 3, 1) := by decide +kernel
theorem dX8_count_277 : decode cX8_count 277 = .ok (.iload 4, 2) := by decide +kernel
theorem dX8_count_279 : decode cX8_count 279 = .ok (.invokevirtual 280, 3) := by decide +kernel
theorem dX8_count_282 : decode cX8_count 282 = .ok (.iaload, 1) := by decide +kernel
theorem dX8_count_283 : decode cX8_count 283 = .ok (.iconst 2, 1) := by decide +kernel
theorem dX8_count_284 : decode cX8_count 284 = .ok (.if_icmp .ne 6, 3) := by decide +kernel
theorem dX8_count_287 : decode cX8_count 287 = .ok (.iinc 2 1, 3) := by decide +kernel
theorem dX8_count_290 : decode cX8_count 290 = .ok (.iinc 4 1, 3) := by decide +kernel
theorem dX8_count_293 : decode cX8_count 293 = .ok (.goto (-32), 3) := by decide +kernel
theorem dX8_count_296 : decode cX8_count 296 = .ok (.iinc 3 1, 3) := by decide +kernel
theorem dX8_count_299 : decode cX8_count 299 = .ok (.goto (-57), 3) := by decide +kernel
theorem dX8_count_302 : decode cX8_count 302 = .ok (.iload_n 2, 1) := by decide +kernel
theorem dX8_count_303 : decode cX8_count 303 = .ok (.ireturn, 1) := by decide +kernel
theorem dX8_count_304 : decode cX8_count 304 = .ok (.iconst 1, 1) := by decide +kernel
theorem dX8_count_305 : decode cX8_count 305 = .ok (.istore_n 3, 1) := by decide +kernel
theorem dX8_count_306 : decode cX8_count 306 = .ok (.iload_n 3, 1) := by decide +kernel
theorem dX8_count_307 : decode cX8_count 307 = .ok (.aload_n 0, 1) := by decide +kernel
theorem dX8_count_308 : decode cX8_count 308 = .ok (.getfield 73, 3) := by decide +kernel
theorem dX8_count_311 : decode cX8_count 311 = .ok (.iconst 2, 1) := by decide +kernel
theorem dX8_count_312 : decode cX8_count 312 = .ok (.iaload, 1) := by decide +kernel
theorem dX8_count_313 : decode cX8_count 313 = .ok (.if_icmp .ge 19, 3) := by decide +kernel
theorem dX8_count_316 : decode cX8_count 316 = .ok (.iload_n 2, 1) := by decide +kernel
theorem dX8_count_317 : decode cX8_count 317 = .ok (.iconst 1, 1) := by decide +kernel
theorem dX8_count_318 : decode cX8_count 318 = .ok (.aload_n 0, 1) := by decide +kernel
theorem dX8_count_319 : decode cX8_count 319 = .ok (.iload_n 3, 1) := by decide +kernel
theorem dX8_count_320 : decode cX8_count 320 = .ok (.invokevirtual 268, 3) := by decide +kernel
theorem dX8_count_323 : decode cX8_count 323 = .ok (.ishl, 1) := by decide +kernel
theorem dX8_count_324 : decode cX8_count 324 = .ok (.ior, 1) := by decide +kernel
theorem dX8_count_325 : decode cX8_count 325 = .ok (.istore_n 2, 1) := by decide +kernel
theorem dX8_count_326 : decode cX8_count 326 = .ok (.iinc 3 1, 3) := by decide +kernel
theorem dX8_count_329 : decode cX8_count 329 = .ok (.goto (-23), 3) := by decide +kernel
theorem dX8_count_332 : decode cX8_count 332 = .ok (.iload_n 2, 1) := by decide +kernel
theorem dX8_count_333 : decode cX8_count 333 = .ok (.ireturn, 1) := by decide +kernel
theorem dX8_count_334 : decode cX8_count 334 = .ok (.iconst (-1), 1) := by decide +kernel
theorem dX8_count_335 : decode cX8_count 335 = .ok (.ireturn, 1) := by decide +kernel
