theorem dX12_init_0 : decode cX12_init 0 = .ok (.aload_n 0, 1) := by decide +kernel
theorem dX12_init_1 : decode cX12_init 1 = .ok (.invokespecial 1, 3) := by decide +kernel
theorem dX12_init_4 : decode cX12_init 4 = .ok (.aload_n 0, 1) := by decide +kernel
theorem dX12_init_5 : decode cX12_init 5 = .ok (.sipush 960, 3) := by decide +kernel
theorem dX12_init_8 : decode cX12_init 8 = .ok (.newarray .int, 2) := by decide +kernel
theorem dX12_init_10 : decode cX12_init 10 = .ok (.putfield 7, 3) := by decide +kernel
theorem dX12_init_13 : decode cX12_init 13 = .ok (.aload_n 0, 1) := by decide +kernel
theorem dX12_init_14 : decode cX12_init 14 = .ok (.bipush 8, 2) := by decide +kernel
theorem dX12_init_16 : decode cX12_init 16 = .ok (.newarray .int, 2) := by decide +kernel
theorem dX12_init_18 : decode cX12_init 18 = .ok (.putfield 13, 3) := by decide +kernel
theorem dX12_init_21 : decode cX12_init 21 = .ok (.aload_n 0, 1) := by decide +kernel
theorem dX12_init_22 : decode cX12_init 22 = .ok (.bipush 40, 2) := by decide +kernel
theorem dX12_init_24 : decode cX12_init 24 = .ok (.newarray .int, 2) := by decide +kernel
theorem dX12_init_26 : decode cX12_init 26 = .ok (.putfield 16, 3) := by decide +kernel
theorem dX12_init_29 : decode cX12_init 29 = .ok (.aload_n 0, 1) := by decide +kernel
theorem dX12_init_30 : decode cX12_init 30 = .ok (.iconst 4, 1) := by decide +kernel
theorem dX12_init_31 : decode cX12_init 31 = .ok (.newarray .int, 2) := by decide +kernel
theorem dX12_init_33 : decode cX12_init 33 = .ok (.putfield 19, 3) := by decide +kernel
theorem dX12_init_36 : decode cX12_init 36 = .ok (.aload_n 0, 1) := by decide +kernel
theorem dX12_init_37 : decode cX12_init 37 = .ok (.iconst 4, 1) := by decide +kernel
theorem dX12_init_38 : decode cX12_init 38 = .ok (.newarray .int, 2) := by decide +kernel
theorem dX12_init_40 : decode cX12_init 40 = .ok (.putfield 22, 3) := by decide +kernel
theorem dX12_init_43 : decode cX12_init 43 = .ok (.aload_n 0, 1) := by decide +kernel
theorem dX12_init_44 : decode cX12_init 44 = .ok (.bipush 16, 2) := by decide +kernel
theorem dX12_init_46 : decode cX12_init 46 = .ok (.newarray .int, 2) := by decide +kernel
theorem dX12_init_48 : decode cX12_init 48 = .ok (.putfield 25, 3) := by decide +kernel
theorem dX12_init_51 : decode cX12_init 51 = .ok (.aload_n 0, 1) := by decide +kernel
theorem dX12_init_52 : decode cX12_init 52 = .ok (.bipush 16, 2) := by decide +kernel
theorem dX12_init_54 : decode cX12_init 54 = .ok (.newarray .int, 2) := by decide +kernel
theorem dX12_init_56 : decode cX12_init 56 = .ok (.putfield 28, 3) := by decide +kernel
theorem dX12_init_59 : decode cX12_init 59 = .ok (.aload_n 0, 1) := by decide +kernel
theorem dX12_init_60 : decode cX12_init 60 = .ok (.iconst 4, 1) := by decide +kernel
theorem dX12_init_61 : decode cX12_init 61 = .ok (.newarray .boolean, 2) := by decide +kernel
theorem dX12_init_63 : decode cX12_init 63 = .ok (.putfield 31, 3) := by decide +kernel
theorem dX12_init_66 : decode cX12_init 66 = .ok (.aload_n 0, 1) := by decide +kernel
theorem dX12_init_67 : decode cX12_init 67 = .ok (.bipush 10, 2) := by decide +kernel
theorem dX12_init_69 : decode cX12_init 69 = .ok (.putfield 35, 3) := by decide +kernel
theorem dX12_init_72 : decode cX12_init 72 = .ok (.aload_n 0, 1) := by decide +kernel
theorem dX12_init_73 : decode cX12_init 73 = .ok (.bipush 60, 2) := by decide +kernel
theorem dX12_init_75 : decode cX12_init 75 = .ok (.newarray .int, 2) := by decide +kernel
theorem dX12_init_77 : decode cX12_init 77 = .ok (.putfield 39, 3) := by decide +kernel
theorem dX12_init_80 : decode cX12_init 80 = .ok (.aload_n 0, 1) := by decide +kernel
theorem dX12_init_81 : decode cX12_init 81 = .ok (.bipush 60, 2) := by decide +kernel
theorem dX12_init_83 : decode cX12_init 83 = .ok (.newarray .int, 2) := by decide +kernel
theorem dX12_init_85 : decode cX12_init 85 = .ok (.putfield 42, 3) := by decide +kernel
theorem dX12_init_88 : decode cX12_init 88 = .ok (.aload_n 0, 1) := by decide +kernel
theorem dX12_init_89 : decode cX12_init 89 = .ok (.bipush 60, 2) := by decide +kernel
theorem dX12_init_91 : decode cX12_init 91 = .ok (.newarray .int, 2) := by decide +kernel
theorem dX12_init_93 : decode cX12_init 93 = .ok (.putfield 45, 3) := by decide +kernel
theorem dX12_init_96 : decode cX12_init 96 = .ok (.aload_n 0, 1) := by decide +kernel
theorem dX12_init_97 : decode cX12_init 97 = .ok (.bipush 60, 2) := by decide +kernel
theorem dX12_init_99 : decode cX12_init 99 = .ok (.newarray .int, 2) := by decide +kernel
theorem dX12_init_101 : decode cX12_init 101 = .ok (.putfield 48, 3) := by decide +kernel
theorem dX12_init_104 : decode cX12_init 104 = .ok (.aload_n 0, 1) := by decide +kernel
theorem dX12_init_105 : decode cX12_init 105 = .ok (.bipush 60, 2) := by decide +kernel
theorem dX12_init_107 : decode cX12_init 107 = .ok (.newarray .int, 2) := by decide +kernel
theorem dX12_init_109 : decode cX12_init 109 = .ok (.putfield 51, 3) := by decide +kernel
theorem dX12_init_112 : decode cX12_init 112 = .ok (.aload_n 0, 1) := by decide +kernel
theorem dX12_init_113 : decode cX12_init 113 = .ok (.bipush 60, 2) := by decide +kernel
theorem dX12_init_115 : decode cX12_init 115 = .ok (.newarray .int, 2) := by decide +kernel
theorem dX12_init_117 : decode cX12_init 117 = .ok (.putfield 54, 3) := by decide +kernel
theorem dX12_init_120 : decode cX12_init 120 = .ok (.aload_n 0, 1) := by decide +kernel
theorem dX12_init_121 : decode cX12_init 121 = .ok (.bipush 60, 2) := by decide +kernel
theorem dX12_init_123 : decode cX12_init 123 = .ok (.newarray .int, 2) := by decide +kernel
theorem dX12_init_125 : decode cX12_init 125 = .ok (.putfield 57, 3) := by decide +kernel
theorem dX12_init_128 : decode cX12_init 128 = .ok (.aload_n 0, 1) := by decide +kernel
theorem dX12_init_129 : decode cX12_init 129 = .ok (.bipush 60, 2) := by decide +kernel
theorem dX12_init_131 : decode cX12_init 131 = .ok (.newarray .int, 2) := by decide +kernel
theorem dX12_init_133 : decode cX12_init 133 = .ok (.putfield 60, 3) := by decide +kernel
theorem dX12_init_136 : decode cX12_init 136 = .ok (.aload_n 0, 1) := by decide +kernel
theorem dX12_init_137 : decode cX12_init 137 = .ok (.bipush 60, 2) := by decide +kernel
theorem dX12_init_139 : decode cX12_init 139 = .ok (.newarray .int, 2) := by decide +kernel
theorem dX12_init_141 : decode cX12_init 141 = .ok (.putfield 63, 3) := by decide +kernel
theorem dX12_init_144 : decode cX12_init 144 = .ok (.aload_n 0, 1) := by decide +kernel
theorem dX12_init_145 : decode cX12_init 145 = .ok (.sipush 3000, 3) := by decide +kernel
theorem dX12_init_148 : decode cX12_init 148 = .ok (.newarray .int, 2) := by decide +kernel
theorem dX12_init_150 : decode cX12_init 150 = .ok (.putfield 66, 3) := by decide +kernel
theorem dX12_init_153 : decode cX12_init 153 = .ok (.aload_n 0, 1) := by decide +kernel
theorem dX12_init_154 : decode cX12_init 154 = .ok (.sipush 3000, 3) := by decide +kernel
theorem dX12_init_157 : decode cX12_init 157 = .ok (.newarray .int, 2) := by decide +kernel
theorem dX12_init_159 : decode cX12_init 159 = .ok (.putfield 69, 3) := by decide +kernel
theorem dX12_init_162 : decode cX12_init 162 = .ok (.aload_n 0, 1) := by decide +kernel
theorem dX12_init_163 : decode cX12_init 163 = .ok (.sipush 3000, 3) := by decide +kernel
theorem dX12_init_166 : decode cX12_init 166 = .ok (.newarray .int, 2) := by decide +kernel
theorem dX12_init_168 : decode cX12_init 168 = .ok (.putfield 72, 3) := by decide +kernel
theorem dX12_init_171 : decode cX12_init 171 = .ok (.aload_n 0, 1) := by decide +kernel
theorem dX12_init_172 : decode cX12_init 172 = .ok (.sipush 3000, 3) := by decide +kernel
theorem dX12_init_175 : decode cX12_init 175 = .ok (.newarray .int, 2) := by decide +kernel
theorem dX12_init_177 : decode cX12_init 177 = .ok (.putfield 75, 3) := by decide +kernel
theorem dX12_init_180 : decode cX12_init 180 = .ok (.aload_n 0, 1) := by decide +kernel
theorem dX12_init_181 : decode cX12_init 181 = .ok (.sipush 3000, 3) := by decide +kernel
theorem dX12_init_184 : decode cX12_init 184 = .ok (.newarray .int, 2) := by decide +kernel
theorem dX12_init_186 : decode cX12_init 186 = .ok (.putfield 78, 3) := by decide +kernel
theorem dX12_init_189 : decode cX12_init 189 = .ok (.aload_n 0, 1) := by decide +kernel
theorem dX12_init_190 : decode cX12_init 190 = .ok (.bipush 26, 2) := by decide +kernel
theorem dX12_init_192 : decode cX12_init 192 = .ok (.newarray .int, 2) := by decide +kernel
theorem dX12_init_194 : decode cX12_init 194 = .ok (.dup, 1) := by decide +kernel
theorem dX12_init_195 : decode cX12_init 195 = .ok (.iconst 0, 1) := by decide +kernel
theorem dX12_init_196 : decode cX12_init 196 = .ok (.sipush 841, 3) := by decide +kernel
theorem dX12_init_199 : decode cX12_init 199 = .ok (.iastore, 1) := by decide +kernel
theorem dX12_init_200 : decode cX12_init 200 = .ok (.dup, 1) := by decide +kernel
theorem dX12_init_201 : decode cX12_init 201 = .ok (.iconst 1, 1) := by decide +kernel
theorem dX12_init_202 : decode cX12_init 202 = .ok (.sipush 14420, 3) := by decide +kernel
theorem dX12_init_205 : decode cX12_init 205 = .ok (.iastore, 1) := by decide +kernel
theorem dX12_init_206 : decode cX12_init 206 = .ok (.dup, 1) := by decide +kernel
theorem dX12_init_207 : decode cX12_init 207 = .ok (.iconst 2, 1) := by decide +kernel
theorem dX12_init_208 : decode cX12_init 208 = .ok (.sipush 10056, 3) := by decide +kernel
theorem dX12_init_211 : decode cX12_init 211 = .ok (.iastore, 1) := by decide +kernel
theorem dX12_init_212 : decode cX12_init 212 = .ok (.dup, 1) := by decide +kernel
theorem dX12_init_213 : decode cX12_init 213 = .ok (.iconst 3, 1) := by decide +kernel
theorem dX12_init_214 : decode cX12_init 214 = .ok (.sipush 9734, 3) := by decide +kernel
theorem dX12_init_217 : decode cX12_init 217 = .ok (.iastore, 1) := by decide +kernel
theorem dX12_init_218 : decode cX12_init 218 = .ok (.dup, 1) := by decide +kernel
theorem dX12_init_219 : decode cX12_init 219 = .ok (.iconst 4, 1) := by decide +kernel
theorem dX12_init_220 : decode cX12_init 220 = .ok (.sipush 9528, 3) := by decide +kernel
theorem dX12_init_223 : decode cX12_init 223 = .ok (.iastore, 1) := by decide +kernel
theorem dX12_init_224 : decode cX12_init 224 = .ok (.dup, 1) := by decide +kernel
theorem dX12_init_225 : decode cX12_init 225 = .ok (.iconst 5, 1) := by decide +kernel
theorem dX12_init_226 : decode cX12_init 226 = .ok (.sipush 3181, 3) := by decide +kernel
theorem dX12_init_229 : decode cX12_init 229 = .ok (.iastore, 1) := by decide +kernel
theorem dX12_init_230 : decode cX12_init 230 = .ok (.dup, 1) := by decide +kernel
theorem dX12_init_231 : decode cX12_init 231 = .ok (.bipush 6, 2) := by decide +kernel
theorem dX12_init_233 : decode cX12_init 233 = .ok (.sipush 9886, 3) := by decide +kernel
theorem dX12_init_236 : decode cX12_init 236 = .ok (.iastore, 1) := by decide +kernel
theorem dX12_init_237 : decode cX12_init 237 = .ok (.dup, 1) := by decide +kernel
theorem dX12_init_238 : decode cX12_init 238 = .ok (.bipush 7, 2) := by decide +kernel
theorem dX12_init_240 : decode cX12_init 240 = .ok (.ldc 81, 2) := by decide +kernel
theorem dX12_init_242 : decode cX12_init 242 = .ok (.iastore, 1) := by decide +kernel
theorem dX12_init_243 : decode cX12_init 243 = .ok (.dup, 1) := by decide +kernel
theorem dX12_init_244 : decode cX12_init 244 = .ok (.bipush 8, 2) := by decide +kernel
theorem dX12_init_246 : decode cX12_init 246 = .ok (.ldc 82, 2) := by decide +kernel
theorem dX12_init_248 : decode cX12_init 248 = .ok (.iastore, 1) := by decide +kernel
theorem dX12_init_249 : decode cX12_init 249 = .ok (.dup, 1) := by decide +kernel
theorem dX12_init_250 : decode cX12_init 250 = .ok (.bipush 9, 2) := by decide +kernel
theorem dX12_init_252 : decode cX12_init 252 = .ok (.sipush 10631, 3) := by decide +kernel
theorem dX12_init_255 : decode cX12_init 255 = .ok (.iastore, 1) := by decide +kernel
theorem dX12_init_256 : decode cX12_init 256 = .ok (.dup, 1) := by decide +kernel
theorem dX12_init_257 : decode cX12_init 257 = .ok (.bipush 10, 2) := by decide +kernel
theorem dX12_init_259 : decode cX12_init 259 = .ok (.sipush 1111, 3) := by decide +kernel
theorem dX12_init_262 : decode cX12_init 262 = .ok (.iastore, 1) := by decide +kernel
theorem dX12_init_263 : decode cX12_init 263 = .ok (.dup, 1) := by decide +kernel
theorem dX12_init_264 : decode cX12_init 264 = .ok (.bipush 11, 2) := by decide +kernel
theorem dX12_init_266 : decode cX12_init 266 = .ok (.sipush 423, 3) := by decide +kernel
theorem dX12_init_269 : decode cX12_init 269 = .ok (.iastore, 1) := by decide +kernel
theorem dX12_init_270 : decode cX12_init 270 = .ok (.dup, 1) := by decide +kernel
theorem dX12_init_271 : decode cX12_init 271 = .ok (.bipush 12, 2) := by decide +kernel
theorem dX12_init_273 : decode cX12_init 273 = .ok (.sipush 249, 3) := by decide +kernel
theorem dX12_init_276 : decode cX12_init 276 = .ok (.iastore, 1) := by decide +kernel
theorem dX12_init_277 : decode cX12_init 277 = .ok (.dup, 1) := by decide +kernel
theorem dX12_init_278 : decode cX12_init 278 = .ok (.bipush 13, 2) := by decide +kernel
theorem dX12_init_280 : decode cX12_init 280 = .ok (.ldc 83, 2) := by decide +kernel
theorem dX12_init_282 : decode cX12_init 282 = .ok (.iastore, 1) := by decide +kernel
theorem dX12_init_283 : decode cX12_init 283 = .ok (.dup, 1) := by decide +kernel
theorem dX12_init_284 : decode cX12_init 284 = .ok (.bipush 14, 2) := by decide +kernel
theorem dX12_init_286 : decode cX12_init 286 = .ok (.bipush 123, 2) := by decide +kernel
theorem dX12_init_288 : decode cX12_init 288 = .ok (.iastore, 1) := by decide +kernel
theorem dX12_init_289 : decode cX12_init 289 = .ok (.dup, 1) := by decide +kernel
theorem dX12_init_290 : decode cX12_init 290 = .ok (.bipush 15, 2) := by decide +kernel
theorem dX12_init_292 : decode cX12_init 292 = .ok (.sipush 8903, 3) := by decide +kernel
theorem dX12_init_295 : decode cX12_init 295 = .ok (.iastore, 1) := by decide +kernel
theorem dX12_init_296 : decode cX12_init 296 = .ok (.dup, 1) := by decide +kernel
theorem dX12_init_297 : decode cX12_init 297 = .ok (.bipush 16, 2) := by decide +kernel
theorem dX12_init_299 : decode cX12_init 299 = .ok (.sipush 14006, 3) := by decide +kernel
theorem dX12_init_302 : decode cX12_init 302 = .ok (.iastore, 1) := by decide +kernel
theorem dX12_init_303 : decode cX12_init 303 = .ok (.dup, 1) := by decide +kernel
theorem dX12_init_304 : decode cX12_init 304 = .ok (.bipush 17, 2) := by decide +kernel
theorem dX12_init_306 : decode cX12_init 306 = .ok (.sipush 3057, 3) := by decide +kernel
theorem dX12_init_309 : decode cX12_init 309 = .ok (.iastore, 1) := by decide +kernel
theorem dX12_init_310 : decode cX12_init 310 = .ok (.dup, 1) := by decide +kernel
theorem dX12_init_311 : decode cX12_init 311 = .ok (.bipush 18, 2) := by decide +kernel
theorem dX12_init_313 : decode cX12_init 313 = .ok (.ldc 84, 2) := by decide +kernel
theorem dX12_init_315 : decode cX12_init 315 = .ok (.iastore, 1) := by decide +kernel
theorem dX12_init_316 : decode cX12_init 316 = .ok (.dup, 1) := by decide +kernel
theorem dX12_init_317 : decode cX12_init 317 = .ok (.bipush 19, 2) := by decide +kernel
theorem dX12_init_319 : decode cX12_init 319 = .ok (.sipush 12251, 3) := by decide +kernel
theorem dX12_init_322 : decode cX12_init 322 = .ok (.iastore, 1) := by decide +kernel
theorem dX12_init_323 : decode cX12_init 323 = .ok (.dup, 1) := by decide +kernel
theorem dX12_init_324 : decode cX12_init 324 = .ok (.bipush 20, 2) := by decide +kernel
theorem dX12_init_326 : decode cX12_init 326 = .ok (.ldc 85, 2) := by decide +kernel
theorem dX12_init_328 : decode cX12_init 328 = .ok (.iastore, 1) := by decide +kernel
theorem dX12_init_329 : decode cX12_init 329 = .ok (.dup, 1) := by decide +kernel
theorem dX12_init_330 : decode cX12_init 330 = .ok (.bipush 21, 2) := by decide +kernel
theorem dX12_init_332 : decode cX12_init 332 = .ok (.bipush 47, 2) := by decide +kernel
theorem dX12_init_334 : decode cX12_init 334 = .ok (.iastore, 1) := by decide +kernel
theorem dX12_init_335 : decode cX12_init 335 = .ok (.dup, 1) := by decide +kernel
theorem dX12_init_336 : decode cX12_init 336 = .ok (.bipush 22, 2) := by decide +kernel
theorem dX12_init_338 : decode cX12_init 338 = .ok (.ldc 86, 2) := by decide +kernel
theorem dX12_init_340 : decode cX12_init 340 = .ok (.iastore, 1) := by decide +kernel
theorem dX12_init_341 : decode cX12_init 341 = .ok (.dup, 1) := by decide +kernel
theorem dX12_init_342 : decode cX12_init 342 = .ok (.bipush 23, 2) := by decide +kernel
theorem dX12_init_344 : decode cX12_init 344 = .ok (.sipush 2050, 3) := by decide +kernel
theorem dX12_init_347 : decode cX12_init 347 = .ok (.iastore, 1) := by decide +kernel
theorem dX12_init_348 : decode cX12_init 348 = .ok (.dup, 1) := by decide +kernel
theorem dX12_init_349 : decode cX12_init 349 = .ok (.bipush 24, 2) := by decide +kernel
theorem dX12_init_351 : decode cX12_init 351 = .ok (.ldc 87, 2) := by decide +kernel
theorem dX12_init_353 : decode cX12_init 353 = .ok (.iastore, 1) := by decide +kernel
theorem dX12_init_354 : decode cX12_init 354 = .ok (.dup, 1) := by decide +kernel
theorem dX12_init_355 : decode cX12_init 355 = .ok (.bipush 25, 2) := by decide +kernel
theorem dX12_init_357 : decode cX12_init 357 = .ok (.ldc 88, 2) := by decide +kernel
theorem dX12_init_359 : decode cX12_init 359 = .ok (.iastore, 1) := by decide +kernel
theorem dX12_init_360 : decode cX12_init 360 = .ok (.putfield 89, 3) := by decide +kernel
theorem dX12_init_363 : decode cX12_init 363 = .ok (.aload_n 0, 1) := by decide +kernel
theorem dX12_init_364 : decode cX12_init 364 = .ok (.bipush 26, 2) := by decide +kernel
theorem dX12_init_366 : decode cX12_init 366 = .ok (.newarray .int, 2) := by decide +kernel
theorem dX12_init_368 : decode cX12_init 368 = .ok (.dup, 1) := by decide +kernel
theorem dX12_init_369 : decode cX12_init 369 = .ok (.iconst 0, 1) := by decide +kernel
theorem dX12_init_370 : decode cX12_init 370 = .ok (.iconst 2, 1) := by decide +kernel
theorem dX12_init_371 : decode cX12_init 371 = .ok (.iastore, 1) := by decide +kernel
theorem dX12_init_372 : decode cX12_init 372 = .ok (.dup, 1) := by decide +kernel
theorem dX12_init_373 : decode cX12_init 373 = .ok (.iconst 1, 1) := by decide +kernel
theorem dX12_init_374 : decode cX12_init 374 = .ok (.iconst 2, 1) := by decide +kernel
theorem dX12_init_375 : decode cX12_init 375 = .ok (.iastore, 1) := by decide +kernel
theorem dX12_init_376 : decode cX12_init 376 = .ok (.dup, 1) := by decide +kernel
theorem dX12_init_377 : decode cX12_init 377 = .ok (.iconst 2, 1) := by decide +kernel
theorem dX12_init_378 : decode cX12_init 378 = .ok (.iconst 2, 1) := by decide +kernel
theorem dX12_init_379 : decode cX12_init 379 = .ok (.iastore, 1) := by decide +kernel
theorem dX12_init_380 : decode cX12_init 380 = .ok (.dup, 1) := by decide +kernel
theorem dX12_init_381 : decode cX12_init 381 = .ok (.iconst 3, 1) := by decide +kernel
theorem dX12_init_382 : decode cX12_init 382 = .ok (.iconst 2, 1) := by decide +kernel
theorem dX12_init_383 : decode cX12_init 383 = .ok (.iastore, 1) := by decide +kernel
theorem dX12_init_384 : decode cX12_init 384 = .ok (.dup, 1) := by decide +kernel
theorem dX12_init_385 : decode cX12_init 385 = .ok (.iconst 4, 1) := by decide +kernel
theorem dX12_init_386 : decode cX12_init 386 = .ok (.iconst 2, 1) := by decide +kernel
theorem dX12_init_387 : decode cX12_init 387 = .ok (.iastore, 1) := by decide +kernel
theorem dX12_init_388 : decode cX12_init 388 = .ok (.dup, 1) := by decide +kernel
theorem dX12_init_389 : decode cX12_init 389 = .ok (.iconst 5, 1) := by decide +kernel
theorem dX12_init_390 : decode cX12_init 390 = .ok (.iconst 2, 1) := by decide +kernel
theorem dX12_init_391 : decode cX12_init 391 = .ok (.iastore, 1) := by decide +kernel
theorem dX12_init_392 : decode cX12_init 392 = .ok (.dup, 1) := by decide +kernel
theorem dX12_init_393 : decode cX12_init 393 = .ok (.bipush 6, 2) := by decide +kernel
theorem dX12_init_395 : decode cX12_init 395 = .ok (.iconst 2, 1) := by decide +kernel
theorem dX12_init_396 : decode cX12_init 396 = .ok (.iastore, 1) := by decide +kernel
theorem dX12_init_397 : decode cX12_init 397 = .ok (.dup, 1) := by decide +kernel
theorem dX12_init_398 : decode cX12_init 398 = .ok (.bipush 7, 2) := by decide +kernel
theorem dX12_init_400 : decode cX12_init 400 = .ok (.iconst 2, 1) := by decide +kernel
theorem dX12_init_401 : decode cX12_init 401 = .ok (.iastore, 1) := by decide +kernel
theorem dX12_init_402 : decode cX12_init 402 = .ok (.dup, 1) := by decide +kernel
theorem dX12_init_403 : decode cX12_init 403 = .ok (.bipush 8, 2) := by decide +kernel
theorem dX12_init_405 : decode cX12_init 405 = .ok (.iconst 2, 1) := by decide +kernel
theorem dX12_init_406 : decode cX12_init 406 = .ok (.iastore, 1) := by decide +kernel
theorem dX12_init_407 : decode cX12_init 407 = .ok (.dup, 1) := by decide +kernel
theorem dX12_init_408 : decode cX12_init 408 = .ok (.bipush 9, 2) := by decide +kernel
theorem dX12_init_410 : decode cX12_init 410 = .ok (.iconst 1, 1) := by decide +kernel
theorem dX12_init_411 : decode cX12_init 411 = .ok (.iastore, 1) := by decide +kernel
theorem dX12_init_412 : decode cX12_init 412 = .ok (.dup, 1) := by decide +kernel
theorem dX12_init_413 : decode cX12_init 413 = .ok (.bipush 10, 2) := by decide +kernel
theorem dX12_init_415 : decode cX12_init 415 = .ok (.iconst 2, 1) := by decide +kernel
theorem dX12_init_416 : decode cX12_init 416 = .ok (.iastore, 1) := by decide +kernel
theorem dX12_init_417 : decode cX12_init 417 = .ok (.dup, 1) := by decide +kernel
theorem dX12_init_418 : decode cX12_init 418 = .ok (.bipush 11, 2) := by decide +kernel
theorem dX12_init_420 : decode cX12_init 420 = .ok (.iconst 2, 1) := by decide +kernel
theorem dX12_init_421 : decode cX12_init 421 = .ok (.iastore, 1) := by decide +kernel
theorem dX12_init_422 : decode cX12_init 422 = .ok (.dup, 1) := by decide +kernel
theorem dX12_init_423 : decode cX12_init 423 = .ok (.bipush 12, 2) := by decide +kernel
theorem dX12_init_425 : decode cX12_init 425 = .ok (.iconst 3, 1) := by decide +kernel
theorem dX12_init_426 : decode cX12_init 426 = .ok (.iastore, 1) := by decide +kernel
theorem dX12_init_427 : decode cX12_init 427 = .ok (.dup, 1) := by decide +kernel
theorem dX12_init_428 : decode cX12_init 428 = .ok (.bipush 13, 2) := by decide +kernel
theorem dX12_init_430 : decode cX12_init 430 = .ok (.iconst 2, 1) := by decide +kernel
theorem dX12_init_431 : decode cX12_init 431 = .ok (.iastore, 1) := by decide +kernel
theorem dX12_init_432 : decode cX12_init 432 = .ok (.dup, 1) := by decide +kernel
theorem dX12_init_433 : decode cX12_init 433 = .ok (.bipush 14, 2) := by decide +kernel
theorem dX12_init_435 : decode cX12_init 435 = .ok (.iconst 1, 1) := by decide +kernel
theorem dX12_init_436 : decode cX12_init 436 = .ok (.iastore, 1) := by decide +kernel
theorem dX12_init_437 : decode cX12_init 437 = .ok (.dup, 1) := by decide +kernel
theorem dX12_init_438 : decode cX12_init 438 = .ok (.bipush 15, 2) := by decide +kernel
theorem dX12_init_440 : decode cX12_init 440 = .ok (.iconst 3, 1) := by decide +kernel
theorem dX12_init_441 : decode cX12_init 441 = .ok (.iastore, 1) := by decide +kernel
theorem dX12_init_442 : decode cX12_init 442 = .ok (.dup, 1) := by decide +kernel
theorem dX12_init_443 : decode cX12_init 443 = .ok (.bipush 16, 2) := by decide +kernel
theorem dX12_init_445 : decode cX12_init 445 = .ok (.iconst 2, 1) := by decide +kernel
theorem dX12_init_446 : decode cX12_init 446 = .ok (.iastore, 1) := by decide +kernel
theorem dX12_init_447 : decode cX12_init 447 = .ok (.dup, 1) := by decide +kernel
theorem dX12_init_448 : decode cX12_init 448 = .ok (.bipush 17, 2) := by decide +kernel
theorem dX12_init_450 : decode cX12_init 450 = .ok (.iconst 3, 1) := by decide +kernel
theorem dX12_init_451 : decode cX12_init 451 = .ok (.iastore, 1) := by decide +kernel
theorem dX12_init_452 : decode cX12_init 452 = .ok (.dup, 1) := by decide +kernel
theorem dX12_init_453 : decode cX12_init 453 = .ok (.bipush 18, 2) := by decide +kernel
theorem dX12_init_455 : decode cX12_init 455 = .ok (.iconst 2, 1) := by decide +kernel
theorem dX12_init_456 : decode cX12_init 456 = .ok (.iastore, 1) := by decide +kernel
theorem dX12_init_457 : decode cX12_init 457 = .ok (.dup, 1) := by decide +kernel
theorem dX12_init_458 : decode cX12_init 458 = .ok (.bipush 19, 2) := by decide +kernel
theorem dX12_init_460 : decode cX12_init 460 = .ok (.iconst 2, 1) := by decide +kernel
theorem dX12_init_461 : decode cX12_init 461 = .ok (.iastore, 1) := by decide +kernel
theorem dX12_init_462 : decode cX12_init 462 = .ok (.dup, 1) := by decide +kernel
theorem dX12_init_463 : decode cX12_init 463 = .ok (.bipush 20, 2) := by decide +kernel
theorem dX12_init_465 : decode cX12_init 465 = .ok (.iconst 3, 1) := by decide +kernel
theorem dX12_init_466 : decode cX12_init 466 = .ok (.iastore, 1) := by decide +kernel
theorem dX12_init_467 : decode cX12_init 467 = .ok (.dup, 1) := by decide +kernel
theorem dX12_init_468 : decode cX12_init 468 = .ok (.bipush 21, 2) := by decide +kernel
theorem dX12_init_470 : decode cX12_init 470 = .ok (.iconst 3, 1) := by decide +kernel
theorem dX12_init_471 : decode cX12_init 471 = .ok (.iastore, 1) := by decide +kernel
theorem dX12_init_472 : decode cX12_init 472 = .ok (.dup, 1) := by decide +kernel
theorem dX12_init_473 : decode cX12_init 473 = .ok (.bipush 22, 2) := by decide +kernel
theorem dX12_init_475 : decode cX12_init 475 = .ok (.iconst 1, 1) := by decide +kernel
theorem dX12_init_476 : decode cX12_init 476 = .ok (.iastore, 1) := by decide +kernel
theorem dX12_init_477 : decode cX12_init 477 = .ok (.dup, 1) := by decide +kernel
theorem dX12_init_478 : decode cX12_init 478 = .ok (.bipush 23, 2) := by decide +kernel
theorem dX12_init_480 : decode cX12_init 480 = .ok (.iconst 1, 1) := by decide +kernel
theorem dX12_init_481 : decode cX12_init 481 = .ok (.iastore, 1) := by decide +kernel
theorem dX12_init_482 : decode cX12_init 482 = .ok (.dup, 1) := by decide +kernel
theorem dX12_init_483 : decode cX12_init 483 = .ok (.bipush 24, 2) := by decide +kernel
theorem dX12_init_485 : decode cX12_init 485 = .ok (.iconst 0, 1) := by decide +kernel
theorem dX12_init_486 : decode cX12_init 486 = .ok (.iastore, 1) := by decide +kernel
theorem dX12_init_487 : decode cX12_init 487 = .ok (.dup, 1) := by decide +kernel
theorem dX12_init_488 : decode cX12_init 488 = .ok (.bipush 25, 2) := by decide +kernel
theorem dX12_init_490 : decode cX12_init 490 = .ok (.iconst 0, 1) := by decide +kernel
theorem dX12_init_491 : decode cX12_init 491 = .ok (.iastore, 1) := by decide +kernel
theorem dX12_init_492 : decode cX12_init 492 = .ok (.putfield 92, 3) := by decide +kernel
theorem dX12_init_495 : decode cX12_init 495 = .ok (.aload_n 0, 1) := by decide +kernel
theorem dX12_init_496 : decode cX12_init 496 = .ok (.bipush 26, 2) := by decide +kernel
theorem dX12_init_498 : decode cX12_init 498 = .ok (.newarray .int, 2) := by decide +kernel
theorem dX12_init_500 : decode cX12_init 500 = .ok (.dup, 1) := by decide +kernel
theorem dX12_init_501 : decode cX12_init 501 = .ok (.iconst 0, 1) := by decide +kernel
theorem dX12_init_502 : decode cX12_init 502 = .ok (.iconst 2, 1) := by decide +kernel
theorem dX12_init_503 : decode cX12_init 503 = .ok (.iastore, 1) := by decide +kernel
theorem dX12_init_504 : decode cX12_init 504 = .ok (.dup, 1) := by decide +kernel
theorem dX12_init_505 : decode cX12_init 505 = .ok (.iconst 1, 1) := by decide +kernel
theorem dX12_init_506 : decode cX12_init 506 = .ok (.iconst 2, 1) := by decide +kernel
theorem dX12_init_507 : decode cX12_init 507 = .ok (.iastore, 1) := by decide +kernel
theorem dX12_init_508 : decode cX12_init 508 = .ok (.dup, 1) := by decide +kernel
theorem dX12_init_509 : decode cX12_init 509 = .ok (.iconst 2, 1) := by decide +kernel
theorem dX12_init_510 : decode cX12_init 510 = .ok (.iconst 2, 1) := by decide +kernel
theorem dX12_init_511 : decode cX12_init 511 = .ok (.iastore, 1) := by decide +kernel
theorem dX12_init_512 : decode cX12_init 512 = .ok (.dup, 1) := by decide +kernel
theorem dX12_init_513 : decode cX12_init 513 = .ok (.iconst 3, 1) := by decide +kernel
theorem dX12_init_514 : decode cX12_init 514 = .ok (.iconst 2, 1) := by decide +kernel
theorem dX12_init_515 : decode cX12_init 515 = .ok (.iastore, 1) := by decide +kernel
theorem dX12_init_516 : decode cX12_init 516 = .ok (.dup, 1) := by decide +kernel
theorem dX12_init_517 : decode cX12_init 517 = .ok (.iconst 4, 1) := by decide +kernel
theorem dX12_init_518 : decode cX12_init 518 = .ok (.iconst 2, 1) := by decide +kernel
theorem dX12_init_519 : decode cX12_init 519 = .ok (.iastore, 1) := by decide +kernel
theorem dX12_init_520 : decode cX12_init 520 = .ok (.dup, 1) := by decide +kernel
theorem dX12_init_521 : decode cX12_init 521 = .ok (.iconst 5, 1) := by decide +kernel
theorem dX12_init_522 : decode cX12_init 522 = .ok (.iconst 2, 1) := by decide +kernel
theorem dX12_init_523 : decode cX12_init 523 = .ok (.iastore, 1) := by decide +kernel
theorem dX12_init_524 : decode cX12_init 524 = .ok (.dup, 1) := by decide +kernel
theorem dX12_init_525 : decode cX12_init 525 = .ok (.bipush 6, 2) := by decide +kernel
theorem dX12_init_527 : decode cX12_init 527 = .ok (.iconst 2, 1) := by decide +kernel
theorem dX12_init_528 : decode cX12_init 528 = .ok (.iastore, 1) := by decide +kernel
theorem dX12_init_529 : decode cX12_init 529 = .ok (.dup, 1) := by decide +kernel
theorem dX12_init_530 : decode cX12_init 530 = .ok (.bipush 7, 2) := by decide +kernel
theorem dX12_init_532 : decode cX12_init 532 = .ok (.iconst 2, 1) := by decide +kernel
theorem dX12_init_533 : decode cX12_init 533 = .ok (.iastore, 1) := by decide +kernel
theorem dX12_init_534 : decode cX12_init 534 = .ok (.dup, 1) := by decide +kernel
theorem dX12_init_535 : decode cX12_init 535 = .ok (.bipush 8, 2) := by decide +kernel
theorem dX12_init_537 : decode cX12_init 537 = .ok (.iconst 2, 1) := by decide +kernel
theorem dX12_init_538 : decode cX12_init 538 = .ok (.iastore, 1) := by decide +kernel
theorem dX12_init_539 : decode cX12_init 539 = .ok (.dup, 1) := by decide +kernel
theorem dX12_init_540 : decode cX12_init 540 = .ok (.bipush 9, 2) := by decide +kernel
theorem dX12_init_542 : decode cX12_init 542 = .ok (.iconst 1, 1) := by decide +kernel
theorem dX12_init_543 : decode cX12_init 543 = .ok (.iastore, 1) := by decide +kernel
theorem dX12_init_544 : decode cX12_init 544 = .ok (.dup, 1) := by decide +kernel
theorem dX12_init_545 : decode cX12_init 545 = .ok (.bipush 10, 2) := by decide +kernel
theorem dX12_init_547 : decode cX12_init 547 = .ok (.iconst 2, 1) := by decide +kernel
theorem dX12_init_548 : decode cX12_init 548 = .ok (.iastore, 1) := by decide +kernel
theorem dX12_init_549 : decode cX12_init 549 = .ok (.dup, 1) := by decide +kernel
theorem dX12_init_550 : decode cX12_init 550 = .ok (.bipush 11, 2) := by decide +kernel
theorem dX12_init_552 : decode cX12_init 552 = .ok (.iconst 2, 1) := by decide +kernel
theorem dX12_init_553 : decode cX12_init 553 = .ok (.iastore, 1) := by decide +kernel
theorem dX12_init_554 : decode cX12_init 554 = .ok (.dup, 1) := by decide +kernel
theorem dX12_init_555 : decode cX12_init 555 = .ok (.bipush 12, 2) := by decide +kernel
theorem dX12_init_557 : decode cX12_init 557 = .ok (.iconst 3, 1) := by decide +kernel
theorem dX12_init_558 : decode cX12_init 558 = .ok (.iastore, 1) := by decide +kernel
theorem dX12_init_559 : decode cX12_init 559 = .ok (.dup, 1) := by decide +kernel
theorem dX12_init_560 : decode cX12_init 560 = .ok (.bipush 13, 2) := by decide +kernel
theorem dX12_init_562 : decode cX12_init 562 = .ok (.bipush 99, 2) := by decide +kernel
theorem dX12_init_564 : decode cX12_init 564 = .ok (.iastore, 1) := by decide +kernel
theorem dX12_init_565 : decode cX12_init 565 = .ok (.dup, 1) := by decide +kernel
theorem dX12_init_566 : decode cX12_init 566 = .ok (.bipush 14, 2) := by decide +kernel
theorem dX12_init_568 : decode cX12_init 568 = .ok (.bipush 99, 2) := by decide +kernel
theorem dX12_init_570 : decode cX12_init 570 = .ok (.iastore, 1) := by decide +kernel
theorem dX12_init_571 : decode cX12_init 571 = .ok (.dup, 1) := by decide +kernel
theorem dX12_init_572 : decode cX12_init 572 = .ok (.bipush 15, 2) := by decide +kernel
theorem dX12_init_574 : decode cX12_init 574 = .ok (.bipush 99, 2) := by decide +kernel
theorem dX12_init_576 : decode cX12_init 576 = .ok (.iastore, 1) := by decide +kernel
theorem dX12_init_577 : decode cX12_init 577 = .ok (.dup, 1) := by decide +kernel
theorem dX12_init_578 : decode cX12_init 578 = .ok (.bipush 16, 2) := by decide +kernel
theorem dX12_init_580 : decode cX12_init 580 = .ok (.iconst 2, 1) := by decide +kernel
theorem dX12_init_581 : decode cX12_init 581 = .ok (.iastore, 1) := by decide +kernel
theorem dX12_init_582 : decode cX12_init 582 = .ok (.dup, 1) := by decide +kernel
theorem dX12_init_583 : decode cX12_init 583 = .ok (.bipush 17, 2) := by decide +kernel
theorem dX12_init_585 : decode cX12_init 585 = .ok (.iconst 3, 1) := by decide +kernel
theorem dX12_init_586 : decode cX12_init 586 = .ok (.iastore, 1) := by decide +kernel
theorem dX12_init_587 : decode cX12_init 587 = .ok (.dup, 1) := by decide +kernel
theorem dX12_init_588 : decode cX12_init 588 = .ok (.bipush 18, 2) := by decide +kernel
theorem dX12_init_590 : decode cX12_init 590 = .ok (.iconst 2, 1) := by decide +kernel
theorem dX12_init_591 : decode cX12_init 591 = .ok (.iastore, 1) := by decide +kernel
theorem dX12_init_592 : decode cX12_init 592 = .ok (.dup, 1) := by decide +kernel
theorem dX12_init_593 : decode cX12_init 593 = .ok (.bipush 19, 2) := by decide +kernel
theorem dX12_init_595 : decode cX12_init 595 = .ok (.iconst 2, 1) := by decide +kernel
theorem dX12_init_596 : decode cX12_init 596 = .ok (.iastore, 1) := by decide +kernel
theorem dX12_init_597 : decode cX12_init 597 = .ok (.dup, 1) := by decide +kernel
theorem dX12_init_598 : decode cX12_init 598 = .ok (.bipush 20, 2) := by decide +kernel
theorem dX12_init_600 : decode cX12_init 600 = .ok (.iconst 3, 1) := by decide +kernel
theorem dX12_init_601 : decode cX12_init 601 = .ok (.iastore, 1) := by decide +kernel
theorem dX12_init_602 : decode cX12_init 602 = .ok (.dup, 1) := by decide +kernel
theorem dX12_init_603 : decode cX12_init 603 = .ok (.bipush 21, 2) := by decide +kernel
theorem dX12_init_605 : decode cX12_init 605 = .ok (.iconst 3, 1) := by decide +kernel
theorem dX12_init_606 : decode cX12_init 606 = .ok (.iastore, 1) := by decide +kernel
theorem dX12_init_607 : decode cX12_init 607 = .ok (.dup, 1) := by decide +kernel
theorem dX12_init_608 : decode cX12_init 608 = .ok (.bipush 22, 2) := by decide +kernel
theorem dX12_init_610 : decode cX12_init 610 = .ok (.iconst 1, 1) := by decide +kernel
theorem dX12_init_611 : decode cX12_init 611 = .ok (.iastore, 1) := by decide +kernel
theorem dX12_init_612 : decode cX12_init 612 = .ok (.dup, 1) := by decide +kernel
theorem dX12_init_613 : decode cX12_init 613 = .ok (.bipush 23, 2) := by decide +kernel
theorem dX12_init_615 : decode cX12_init 615 = .ok (.iconst 1, 1) := by decide +kernel
theorem dX12_init_616 : decode cX12_init 616 = .ok (.iastore, 1) := by decide +kernel
theorem dX12_init_617 : decode cX12_init 617 = .ok (.dup, 1) := by decide +kernel
theorem dX12_init_618 : decode cX12_init 618 = .ok (.bipush 24, 2) := by decide +kernel
theorem dX12_init_620 : decode cX12_init 620 = .ok (.iconst 0, 1) := by decide +kernel
theorem dX12_init_621 : decode cX12_init 621 = .ok (.iastore, 1) := by decide +kernel
theorem dX12_init_622 : decode cX12_init 622 = .ok (.dup, 1) := by decide +kernel
theorem dX12_init_623 : decode cX12_init 623 = .ok (.bipush 25, 2) := by decide +kernel
theorem dX12_init_625 : decode cX12_init 625 = .ok (.iconst 0, 1) := by decide +kernel
theorem dX12_init_626 : decode cX12_init 626 = .ok (.iastore, 1) := by decide +kernel
theorem dX12_init_627 : decode cX12_init 627 = .ok (.putfield 95, 3) := by decide +kernel
theorem dX12_init_630 : decode cX12_init 630 = .ok (.aload_n 0, 1) := by decide +kernel
theorem dX12_init_631 : decode cX12_init 631 = .ok (.bipush 32, 2) := by decide +kernel
theorem dX12_init_633 : decode cX12_init 633 = .ok (.newarray .int, 2) := by decide +kernel
theorem dX12_init_635 : decode cX12_init 635 = .ok (.putfield 98, 3) := by decide +kernel
theorem dX12_init_638 : decode cX12_init 638 = .ok (.aload_n 0, 1) := by decide +kernel
theorem dX12_init_639 : decode cX12_init 639 = .ok (.bipush 32, 2) := by decide +kernel
theorem dX12_init_641 : decode cX12_init 641 = .ok (.newarray .int, 2) := by decide +kernel
theorem dX12_init_643 : decode cX12_init 643 = .ok (.putfield 101, 3) := by decide +kernel
theorem dX12_init_646 : decode cX12_init 646 = .ok (.aload_n 0, 1) := by decide +kernel
theorem dX12_init_647 : decode cX12_init 647 = .ok (.bipush 32, 2) := by decide +kernel
theorem dX12_init_649 : decode cX12_init 649 = .ok (.newarray .int, 2) := by decide +kernel
theorem dX12_init_651 : decode cX12_init 651 = .ok (.putfield 104, 3) := by decide +kernel
theorem dX12_init_654 : decode cX12_init 654 = .ok (.aload_n 0, 1) := by decide +kernel
theorem dX12_init_655 : decode cX12_init 655 = .ok (.bipush 32, 2) := by decide +kernel
theorem dX12_init_657 : decode cX12_init 657 = .ok (.newarray .int, 2) := by decide +kernel
theorem dX12_init_659 : decode cX12_init 659 = .ok (.putfield 107, 3) := by decide +kernel
theorem dX12_init_662 : decode cX12_init 662 = .ok (.aload_n 0, 1) := by decide +kernel
theorem dX12_init_663 : decode cX12_init 663 = .ok (.bipush 32, 2) := by decide +kernel
theorem dX12_init_665 : decode cX12_init 665 = .ok (.newarray .int, 2) := by decide +kernel
theorem dX12_init_667 : decode cX12_init 667 = .ok (.putfield 110, 3) := by decide +kernel
theorem dX12_init_670 : decode cX12_init 670 = .ok (.aload_n 0, 1) := by decide +kernel
theorem dX12_init_671 : decode cX12_init 671 = .ok (.bipush 32, 2) := by decide +kernel
theorem dX12_init_673 : decode cX12_init 673 = .ok (.newarray .int, 2) := by decide +kernel
theorem dX12_init_675 : decode cX12_init 675 = .ok (.putfield 113, 3) := by decide +kernel
theorem dX12_init_678 : decode cX12_init 678 = .ok (.aload_n 0, 1) := by decide +kernel
theorem dX12_init_679 : decode cX12_init 679 = .ok (.bipush 32, 2) := by decide +kernel
theorem dX12_init_681 : decode cX12_init 681 = .ok (.newarray .int, 2) := by decide +kernel
theorem dX12_init_683 : decode cX12_init 683 = .ok (.putfield 116, 3) := by decide +kernel
theorem dX12_init_686 : decode cX12_init 686 = .ok (.aload_n 0, 1) := by decide +kernel
theorem dX12_init_687 : decode cX12_init 687 = .ok (.bipush 32, 2) := by decide +kernel
theorem dX12_init_689 : decode cX12_init 689 = .ok (.newarray .int, 2) := by decide +kernel
theorem dX12_init_691 : decode cX12_init 691 = .ok (.putfield 119, 3) := by decide +kernel
theorem dX12_init_694 : decode cX12_init 694 = .ok (.aload_n 0, 1) := by decide +kernel
theorem dX12_init_695 : decode cX12_init 695 = .ok (.bipush 32, 2) := by decide +kernel
theorem dX12_init_697 : decode cX12_init 697 = .ok (.newarray .int, 2) := by decide +kernel
theorem dX12_init_699 : decode cX12_init 699 = .ok (.putfield 122, 3) := by decide +kernel
theorem dX12_init_702 : decode cX12_init 702 = .ok (.aload_n 0, 1) := by decide +kernel
theorem dX12_init_703 : decode cX12_init 703 = .ok (.bipush 32, 2) := by decide +kernel
theorem dX12_init_705 : decode cX12_init 705 = .ok (.newarray .int, 2) := by decide +kernel
theorem dX12_init_707 : decode cX12_init 707 = .ok (.putfield 125, 3) := by decide +kernel
theorem dX12_init_710 : decode cX12_init 710 = .ok (.aload_n 0, 1) := by decide +kernel
theorem dX12_init_711 : decode cX12_init 711 = .ok (.bipush 32, 2) := by decide +kernel
theorem dX12_init_713 : decode cX12_init 713 = .ok (.newarray .int, 2) := by decide +kernel
theorem dX12_init_715 : decode cX12_init 715 = .ok (.putfield 128, 3) := by decide +kernel
theorem dX12_init_718 : decode cX12_init 718 = .ok (.aload_n 0, 1) := by decide +kernel
theorem dX12_init_719 : decode cX12_init 719 = .ok (.bipush 32, 2) := by decide +kernel
theorem dX12_init_721 : decode cX12_init 721 = .ok (.newarray .int, 2) := by decide +kernel
theorem dX12_init_723 : decode cX12_init 723 = .ok (.putfield 131, 3) := by decide +kernel
theorem dX12_init_726 : decode cX12_init 726 = .ok (.aload_n 0, 1) := by decide +kernel
theorem dX12_init_727 : decode cX12_init 727 = .ok (.bipush 96, 2) := by decide +kernel
theorem dX12_init_729 : decode cX12_init 729 = .ok (.newarray .int, 2) := by decide +kernel
theorem dX12_init_731 : decode cX12_init 731 = .ok (.putfield 134, 3) := by decide +kernel
theorem dX12_init_734 : decode cX12_init 734 = .ok (.aload_n 0, 1) := by decide +kernel
theorem dX12_init_735 : decode cX12_init 735 = .ok (.bipush 32, 2) := by decide +kernel
theorem dX12_init_737 : decode cX12_init 737 = .ok (.newarray .int, 2) := by decide +kernel
theorem dX12_init_739 : decode cX12_init 739 = .ok (.putfield 137, 3) := by decide +kernel
theorem dX12_init_742 : decode cX12_init 742 = .ok (.aload_n 0, 1) := by decide +kernel
theorem dX12_init_743 : decode cX12_init 743 = .ok (.bipush 32, 2) := by decide +kernel
theorem dX12_init_745 : decode cX12_init 745 = .ok (.newarray .int, 2) := by decide +kernel
theorem dX12_init_747 : decode cX12_init 747 = .ok (.putfield 140, 3) := by decide +kernel
theorem dX12_init_750 : decode cX12_init 750 = .ok (.aload_n 0, 1) := by decide +kernel
theorem dX12_init_751 : decode cX12_init 751 = .ok (.bipush 100, 2) := by decide +kernel
theorem dX12_init_753 : decode cX12_init 753 = .ok (.newarray .int, 2) := by decide +kernel
theorem dX12_init_755 : decode cX12_init 755 = .ok (.putfield 143, 3) := by decide +kernel
theorem dX12_init_758 : decode cX12_init 758 = .ok (.aload_n 0, 1) := by decide +kernel
theorem dX12_init_759 : decode cX12_init 759 = .ok (.bipush 100, 2) := by decide +kernel
theorem dX12_init_761 : decode cX12_init 761 = .ok (.newarray .int, 2) := by decide +kernel
theorem dX12_init_763 : decode cX12_init 763 = .ok (.putfield 146, 3) := by decide +kernel
theorem dX12_init_766 : decode cX12_init 766 = .ok (.aload_n 0, 1) := by decide +kernel
theorem dX12_init_767 : decode cX12_init 767 = .ok (.bipush 8, 2) := by decide +kernel
theorem dX12_init_769 : decode cX12_init 769 = .ok (.newarray .int, 2) := by decide +kernel
theorem dX12_init_771 : decode cX12_init 771 = .ok (.putfield 149, 3) := by decide +kernel
theorem dX12_init_774 : decode cX12_init 774 = .ok (.aload_n 0, 1) := by decide +kernel
theorem dX12_init_775 : decode cX12_init 775 = .ok (.bipush 8, 2) := by decide +kernel
theorem dX12_init_777 : decode cX12_init 777 = .ok (.newarray .int, 2) := by decide +kernel
theorem dX12_init_779 : decode cX12_init 779 = .ok (.putfield 152, 3) := by decide +kernel
theorem dX12_init_782 : decode cX12_init 782 = .ok (.aload_n 0, 1) := by decide +kernel
theorem dX12_init_783 : decode cX12_init 783 = .ok (.bipush 24, 2) := by decide +kernel
theorem dX12_init_785 : decode cX12_init 785 = .ok (.newarray .int, 2) := by decide +kernel
theorem dX12_init_787 : decode cX12_init 787 = .ok (.putfield 155, 3) := by decide +kernel
theorem dX12_init_790 : decode cX12_init 790 = .ok (.aload_n 0, 1) := by decide +kernel
theorem dX12_init_791 : decode cX12_init 791 = .ok (.bipush 8, 2) := by decide +kernel
theorem dX12_init_793 : decode cX12_init 793 = .ok (.newarray .int, 2) := by decide +kernel
theorem dX12_init_795 : decode cX12_init 795 = .ok (.putfield 158, 3) := by decide +kernel
theorem dX12_init_798 : decode cX12_init 798 = .ok (.aload_n 0, 1) := by decide +kernel
theorem dX12_init_799 : decode cX12_init 799 = .ok (.bipush 8, 2) := by decide +kernel
theorem dX12_init_801 : decode cX12_init 801 = .ok (.newarray .int, 2) := by decide +kernel
theorem dX12_init_803 : decode cX12_init 803 = .ok (.putfield 161, 3) := by decide +kernel
theorem dX12_init_806 : decode cX12_init 806 = .ok (.return_, 1) := by decide +kernel
theorem dX12_thrown_0 : decode cX12_thrown 0 = .ok (.aload_n 0, 1) := by decide +kernel
theorem dX12_thrown_1 : decode cX12_thrown 1 = .ok (.getfield 164, 3) := by decide +kernel
theorem dX12_thrown_4 : decode cX12_thrown 4 = .ok (.ireturn, 1) := by decide +kernel
theorem dX12_goesWell_0 : decode cX12_goesWell 0 = .ok (.aload_n 0, 1) := by decide +kernel
theorem dX12_goesWell_1 : decode cX12_goesWell 1 = .ok (.iload_n 1, 1) := by decide +kernel
theorem dX12_goesWell_2 : decode cX12_goesWell 2 = .ok (.putfield 164, 3) := by decide +kernel
theorem dX12_goesWell_5 : decode cX12_goesWell 5 = .ok (.iload_n 1, 1) := by decide +kernel
theorem dX12_goesWell_6 : decode cX12_goesWell 6 = .ok (.ifCond .ne 7, 3) := by decide +kernel
theorem dX12_goesWell_9 : decode cX12_goesWell 9 = .ok (.iconst 1, 1) := by decide +kernel
theorem dX12_goesWell_10 : decode cX12_goesWell 10 = .ok (.goto 4, 3) := by decide +kernel
theorem dX12_goesWell_13 : decode cX12_goesWell 13 = .ok (.iconst 0, 1) := by decide +kernel
theorem dX12_goesWell_14 : decode cX12_goesWell 14 = .ok (.ireturn, 1) := by decide +kernel
theorem dX12_in_0 : decode cX12_in 0 = .ok (.iload_n 0, 1) := by decide +kernel
theorem dX12_in_1 : decode cX12_in 1 = .ok (.iload_n 1, 1) := by decide +kernel
theorem dX12_in_2 : decode cX12_in 2 = .ok (.if_icmp .lt 12, 3) := by decide +kernel
theorem dX12_in_5 : decode cX12_in 5 = .ok (.iload_n 0, 1) := by decide +kernel
theorem dX12_in_6 : decode cX12_in 6 = .ok (.iload_n 2, 1) := by decide +kernel
theorem dX12_in_7 : decode cX12_in 7 = .ok (.if_icmp .gt 7, 3) := by decide +kernel
theorem dX12_in_10 : decode cX12_in 10 = .ok (.iconst 1, 1) := by decide +kernel
theorem dX12_in_11 : decode cX12_in 11 = .ok (.goto 4, 3) := by decide +kernel
theorem dX12_in_14 : decode cX12_in 14 = .ok (.iconst 0, 1) := by decide +kernel
theorem dX12_in_15 : decode cX12_in 15 = .ok (.ireturn, 1) := by decide +kernel
theorem dX12_isScript_0 : decode cX12_isScript 0 = .ok (.iload_n 0, 1) := by decide +kernel
theorem dX12_isScript_1 : decode cX12_isScript 1 = .ok (.iconst 0, 1) := by decide +kernel
theorem dX12_isScript_2 : decode cX12_isScript 2 = .ok (.bipush 7, 2) := by decide +kernel
theorem dX12_isScript_4 : decode cX12_isScript 4 = .ok (.invokestatic 167, 3) := by decide +kernel
theorem dX12_isScript_7 : decode cX12_isScript 7 = .ok (.ireturn, 1) := by decide +kernel
theorem dX12_isCompany_0 : decode cX12_isCompany 0 = .ok (.iload_n 0, 1) := by decide +kernel
theorem dX12_isCompany_1 : decode cX12_isCompany 1 = .ok (.iconst 0, 1) := by decide +kernel
theorem dX12_isCompany_2 : decode cX12_isCompany 2 = .ok (.iconst 3, 1) := by decide +kernel
theorem dX12_isCompany_3 : decode cX12_isCompany 3 = .ok (.invokestatic 167, 3) := by decide +kernel
theorem dX12_isCompany_6 : decode cX12_isCompany 6 = .ok (.ireturn, 1) := by decide +kernel
theorem dX12_isGood_0 : decode cX12_isGood 0 = .ok (.iload_n 0, 1) := by decide +kernel
theorem dX12_isGood_1 : decode cX12_isGood 1 = .ok (.iconst 0, 1) := by decide +kernel
theorem dX12_isGood_2 : decode cX12_isGood 2 = .ok (.bipush 7, 2) := by decide +kernel
theorem dX12_isGood_4 : decode cX12_isGood 4 = .ok (.invokestatic 167, 3) := by decide +kernel
theorem dX12_isGood_7 : decode cX12_isGood 7 = .ok (.ireturn, 1) := by decide +kernel
theorem dX12_isDigit_0 : decode cX12_isDigit 0 = .ok (.iload_n 0, 1) := by decide +kernel
theorem dX12_isDigit_1 : decode cX12_isDigit 1 = .ok (.bipush 48, 2) := by decide +kernel
theorem dX12_isDigit_3 : decode cX12_isDigit 3 = .ok (.bipush 57, 2) := by decide +kernel
theorem dX12_isDigit_5 : decode cX12_isDigit 5 = .ok (.invokestatic 167, 3) := by decide +kernel
theorem dX12_isDigit_8 : decode cX12_isDigit 8 = .ok (.ireturn, 1) := by decide +kernel
theorem dX12_isLetter_0 : decode cX12_isLetter 0 = .ok (.iload_n 0, 1) := by decide +kernel
theorem dX12_isLetter_1 : decode cX12_isLetter 1 = .ok (.bipush 97, 2) := by decide +kernel
theorem dX12_isLetter_3 : decode cX12_isLetter 3 = .ok (.bipush 122, 2) := by decide +kernel
theorem dX12_isLetter_5 : decode cX12_isLetter 5 = .ok (.invokestatic 167, 3) := by decide +kernel
theorem dX12_isLetter_8 : decode cX12_isLetter 8 = .ok (.ireturn, 1) := by decide +kernel
theorem dX12_signAt_0 : decode cX12_signAt 0 = .ok (.iload_n 2, 1) := by decide +kernel
theorem dX12_signAt_1 : decode cX12_signAt 1 = .ok (.aload_n 0, 1) := by decide +kernel
theorem dX12_signAt_2 : decode cX12_signAt 2 = .ok (.getfield 13, 3) := by decide +kernel
theorem dX12_signAt_5 : decode cX12_signAt 5 = .ok (.iload_n 1, 1) := by decide +kernel
theorem dX12_signAt_6 : decode cX12_signAt 6 = .ok (.iaload, 1) := by decide +kernel
theorem dX12_signAt_7 : decode cX12_signAt 7 = .ok (.if_icmp .ge 17, 3) := by decide +kernel
theorem dX12_signAt_10 : decode cX12_signAt 10 = .ok (.aload_n 0, 1) := by decide +kernel
theorem dX12_signAt_11 : decode cX12_signAt 11 = .ok (.getfield 7, 3) := by decide +kernel
theorem dX12_signAt_14 : decode cX12_signAt 14 = .ok (.bipush 120, 2) := by decide +kernel
theorem dX12_signAt_16 : decode cX12_signAt 16 = .ok (.iload_n 1, 1) := by decide +kernel
theorem dX12_signAt_17 : decode cX12_signAt 17 = .ok (.imul, 1) := by decide +kernel
theorem dX12_signAt_18 : decode cX12_signAt 18 = .ok (.iload_n 2, 1) := by decide +kernel
theorem dX12_signAt_19 : decode cX12_signAt 19 = .ok (.iadd, 1) := by decide +kernel
theorem dX12_signAt_20 : decode cX12_signAt 20 = .ok (.iaload, 1) := by decide +kernel
theorem dX12_signAt_21 : decode cX12_signAt 21 = .ok (.goto 4, 3) := by decide +kernel
theorem dX12_signAt_24 : decode cX12_signAt 24 = .ok (.iconst 0, 1) := by decide +kernel
theorem dX12_signAt_25 : decode cX12_signAt 25 = .ok (.ireturn, 1) := by decide +kernel
theorem dX12_type_0 : decode cX12_type 0 = .ok (.iload_n 2, 1) := by decide +kernel
theorem dX12_type_1 : decode cX12_type 1 = .ok (.bipush 32, 2) := by decide +kernel
theorem dX12_type_3 : decode cX12_type 3 = .ok (.if_icmp .eq 35, 3) := by decide +kernel
theorem dX12_type_6 : decode cX12_type 6 = .ok (.iload_n 2, 1) := by decide +kernel
theorem dX12_type_7 : decode cX12_type 7 = .ok (.bipush 40, 2) := by decide +kernel
theorem dX12_type_9 : decode cX12_type 9 = .ok (.if_icmp .eq 29, 3) := by decide +kernel
theorem dX12_type_12 : decode cX12_type 12 = .ok (.iload_n 2, 1) := by decide +kernel
theorem dX12_type_13 : decode cX12_type 13 = .ok (.bipush 41, 2) := by decide +kernel
theorem dX12_type_15 : decode cX12_type 15 = .ok (.if_icmp .eq 23, 3) := by decide +kernel
theorem dX12_type_18 : decode cX12_type 18 = .ok (.iload_n 2, 1) := by decide +kernel
theorem dX12_type_19 : decode cX12_type 19 = .ok (.bipush 45, 2) := by decide +kernel
theorem dX12_type_21 : decode cX12_type 21 = .ok (.if_icmp .eq 17, 3) := by decide +kernel
theorem dX12_type_24 : decode cX12_type 24 = .ok (.iload_n 2, 1) := by decide +kernel
theorem dX12_type_25 : decode cX12_type 25 = .ok (.invokestatic 171, 3) := by decide +kernel
theorem dX12_type_28 : decode cX12_type 28 = .ok (.ifCond .ne 10, 3) := by decide +kernel
theorem dX12_type_31 : decode cX12_type 31 = .ok (.iload_n 2, 1) := by decide +kernel
theorem dX12_type_32 : decode cX12_type 32 = .ok (.invokestatic 175, 3) := by decide +kernel
theorem dX12_type_35 : decode cX12_type 35 = .ok (.ifCond .eq 7, 3) := by decide +kernel
theorem dX12_type_38 : decode cX12_type 38 = .ok (.iconst 1, 1) := by decide +kernel
theorem dX12_type_39 : decode cX12_type 39 = .ok (.goto 4, 3) := by decide +kernel
theorem dX12_type_42 : decode cX12_type 42 = .ok (.iconst 0, 1) := by decide +kernel
theorem dX12_type_43 : decode cX12_type 43 = .ok (.istore_n 3, 1) := by decide +kernel
theorem dX12_type_44 : decode cX12_type 44 = .ok (.aload_n 0, 1) := by decide +kernel
theorem dX12_type_45 : decode cX12_type 45 = .ok (.iload_n 1, 1) := by decide +kernel
theorem dX12_type_46 : decode cX12_type 46 = .ok (.invokestatic 178, 3) := by decide +kernel
theorem dX12_type_49 : decode cX12_type 49 = .ok (.ifCond .eq 7, 3) := by decide +kernel
theorem dX12_type_52 : decode cX12_type 52 = .ok (.iload_n 3, 1) := by decide +kernel
theorem dX12_type_53 : decode cX12_type 53 = .ok (.ifCond .ne 7, 3) := by decide +kernel
theorem dX12_type_56 : decode cX12_type 56 = .ok (.iconst 1, 1) := by decide +kernel
theorem dX12_type_57 : decode cX12_type 57 = .ok (.goto 19, 3) := by decide +kernel
theorem dX12_type_60 : decode cX12_type 60 = .ok (.aload_n 0, 1) := by decide +kernel
theorem dX12_type_61 : decode cX12_type 61 = .ok (.getfield 13, 3) := by decide +kernel
theorem dX12_type_64 : decode cX12_type 64 = .ok (.iload_n 1, 1) := by decide +kernel
theorem dX12_type_65 : decode cX12_type 65 = .ok (.iaload, 1) := by decide +kernel
theorem dX12_type_66 : decode cX12_type 66 = .ok (.bipush 120, 2) := by decide +kernel
theorem dX12_type_68 : decode cX12_type 68 = .ok (.if_icmp .ne 7, 3) := by decide +kernel
theorem dX12_type_71 : decode cX12_type 71 = .ok (.iconst 2, 1) := by decide +kernel
theorem dX12_type_72 : decode cX12_type 72 = .ok (.goto 4, 3) := by decide +kernel
theorem dX12_type_75 : decode cX12_type 75 = .ok (.iconst 0, 1) := by decide +kernel
theorem dX12_type_76 : decode cX12_type 76 = .ok (.invokevirtual 181, 3) := by decide +kernel
theorem dX12_type_79 : decode cX12_type 79 = .ok (.ifCond .ne 5, 3) := by decide +kernel
theorem dX12_type_82 : decode cX12_type 82 = .ok (.iconst 0, 1) := by decide +kernel
theorem dX12_type_83 : decode cX12_type 83 = .ok (.ireturn, 1) := by decide +kernel
theorem dX12_type_84 : decode cX12_type 84 = .ok (.aload_n 0, 1) := by decide +kernel
theorem dX12_type_85 : decode cX12_type 85 = .ok (.getfield 7, 3) := by decide +kernel
theorem dX12_type_88 : decode cX12_type 88 = .ok (.bipush 120, 2) := by decide +kernel
theorem dX12_type_90 : decode cX12_type 90 = .ok (.iload_n 1, 1) := by decide +kernel
theorem dX12_type_91 : decode cX12_type 91 = .ok (.imul, 1) := by decide +kernel
theorem dX12_type_92 : decode cX12_type 92 = .ok (.aload_n 0, 1) := by decide +kernel
theorem dX12_type_93 : decode cX12_type 93 = .ok (.getfield 13, 3) := by decide +kernel
theorem dX12_type_96 : decode cX12_type 96 = .ok (.iload_n 1, 1) := by decide +kernel
theorem dX12_type_97 : decode cX12_type 97 = .ok (.iaload, 1) := by decide +kernel
theorem dX12_type_98 : decode cX12_type 98 = .ok (.iadd, 1) := by decide +kernel
theorem dX12_type_99 : decode cX12_type 99 = .ok (.iload_n 2, 1) := by decide +kernel
theorem dX12_type_100 : decode cX12_type 100 = .ok (.iastore, 1) := by decide +kernel
theorem dX12_type_101 : decode cX12_type 101 = .ok (.aload_n 0, 1) := by decide +kernel
theorem dX12_type_102 : decode cX12_type 102 = .ok (.getfield 13, 3) := by decide +kernel
theorem dX12_type_105 : decode cX12_type 105 = .ok (.iload_n 1, 1) := by decide +kernel
theorem dX12_type_106 : decode cX12_type 106 = .ok (.dup2, 1) := by decide +kernel
theorem dX12_type_107 : decode cX12_type 107 = .ok (.iaload, 1) := by decide +kernel
theorem dX12_type_108 : decode cX12_type 108 = .ok (.iconst 1, 1) := by decide +kernel
theorem dX12_type_109 : decode cX12_type 109 = .ok (.iadd, 1) := by decide +kernel
theorem dX12_type_110 : decode cX12_type 110 = .ok (.iastore, 1) := by decide +kernel
theorem dX12_type_111 : decode cX12_type 111 = .ok (.aload_n 0, 1) := by decide +kernel
theorem dX12_type_112 : decode cX12_type 112 = .ok (.getfield 13, 3) := by decide +kernel
theorem dX12_type_115 : decode cX12_type 115 = .ok (.iload_n 1, 1) := by decide +kernel
theorem dX12_type_116 : decode cX12_type 116 = .ok (.iaload, 1) := by decide +kernel
theorem dX12_type_117 : decode cX12_type 117 = .ok (.ireturn, 1) := by decide +kernel
theorem dX12_erase_0 : decode cX12_erase 0 = .ok (.aload_n 0, 1) := by decide +kernel
theorem dX12_erase_1 : decode cX12_erase 1 = .ok (.iload_n 1, 1) := by decide +kernel
theorem dX12_erase_2 : decode cX12_erase 2 = .ok (.invokestatic 178, 3) := by decide +kernel
theorem dX12_erase_5 : decode cX12_erase 5 = .ok (.ifCond .eq 12, 3) := by decide +kernel
theorem dX12_erase_8 : decode cX12_erase 8 = .ok (.iload_n 2, 1) := by decide +kernel
theorem dX12_erase_9 : decode cX12_erase 9 = .ok (.iconst 1, 1) := by decide +kernel
theorem dX12_erase_10 : decode cX12_erase 10 = .ok (.if_icmp .lt 7, 3) := by decide +kernel
theorem dX12_erase_13 : decode cX12_erase 13 = .ok (.iconst 0, 1) := by decide +kernel
theorem dX12_erase_14 : decode cX12_erase 14 = .ok (.goto 4, 3) := by decide +kernel
theorem dX12_erase_17 : decode cX12_erase 17 = .ok (.iconst 1, 1) := by decide +kernel
theorem dX12_erase_18 : decode cX12_erase 18 = .ok (.invokevirtual 181, 3) := by decide +kernel
theorem dX12_erase_21 : decode cX12_erase 21 = .ok (.ifCond .ne 5, 3) := by decide +kernel
theorem dX12_erase_24 : decode cX12_erase 24 = .ok (.iconst 0, 1) := by decide +kernel
theorem dX12_erase_25 : decode cX12_erase 25 = .ok (.ireturn, 1) := by decide +kernel
theorem dX12_erase_26 : decode cX12_erase 26 = .ok (.aload_n 0, 1) := by decide +kernel
theorem dX12_erase_27 : decode cX12_erase 27 = .ok (.getfield 13, 3) := by decide +kernel
theorem dX12_erase_30 : decode cX12_erase 30 = .ok (.iload_n 1, 1) := by decide +kernel
theorem dX12_erase_31 : decode cX12_erase 31 = .ok (.iload_n 2, 1) := by decide +kernel
theorem dX12_erase_32 : decode cX12_erase 32 = .ok (.aload_n 0, 1) := by decide +kernel
theorem dX12_erase_33 : decode cX12_erase 33 = .ok (.getfield 13, 3) := by decide +kernel
theorem dX12_erase_36 : decode cX12_erase 36 = .ok (.iload_n 1, 1) := by decide +kernel
theorem dX12_erase_37 : decode cX12_erase 37 = .ok (.iaload, 1) := by decide +kernel
theorem dX12_erase_38 : decode cX12_erase 38 = .ok (.if_icmp .ge 14, 3) := by decide +kernel
theorem dX12_erase_41 : decode cX12_erase 41 = .ok (.aload_n 0, 1) := by decide +kernel
theorem dX12_erase_42 : decode cX12_erase 42 = .ok (.getfield 13, 3) := by decide +kernel
theorem dX12_erase_45 : decode cX12_erase 45 = .ok (.iload_n 1, 1) := by decide +kernel
theorem dX12_erase_46 : decode cX12_erase 46 = .ok (.iaload, 1) := by decide +kernel
theorem dX12_erase_47 : decode cX12_erase 47 = .ok (.iload_n 2, 1) := by decide +kernel
theorem dX12_erase_48 : decode cX12_erase 48 = .ok (.isub, 1) := by decide +kernel
theorem dX12_erase_49 : decode cX12_erase 49 = .ok (.goto 4, 3) := by decide +kernel
theorem dX12_erase_52 : decode cX12_erase 52 = .ok (.iconst 0, 1) := by decide +kernel
theorem dX12_erase_53 : decode cX12_erase 53 = .ok (.iastore, 1) := by decide +kernel
theorem dX12_erase_54 : decode cX12_erase 54 = .ok (.aload_n 0, 1) := by decide +kernel
theorem dX12_erase_55 : decode cX12_erase 55 = .ok (.getfield 13, 3) := by decide +kernel
theorem dX12_erase_58 : decode cX12_erase 58 = .ok (.iload_n 1, 1) := by decide +kernel
theorem dX12_erase_59 : decode cX12_erase 59 = .ok (.iaload, 1) := by decide +kernel
theorem dX12_erase_60 : decode cX12_erase 60 = .ok (.ireturn, 1) := by decide +kernel
theorem dX12_length_0 : decode cX12_length 0 = .ok (.aload_n 0, 1) := by decide +kernel
theorem dX12_length_1 : decode cX12_length 1 = .ok (.iload_n 1, 1) := by decide +kernel
theorem dX12_length_2 : decode cX12_length 2 = .ok (.invokestatic 178, 3) := by decide +kernel
theorem dX12_length_5 : decode cX12_length 5 = .ok (.ifCond .eq 7, 3) := by decide +kernel
theorem dX12_length_8 : decode cX12_length 8 = .ok (.iconst 0, 1) := by decide +kernel
theorem dX12_length_9 : decode cX12_length 9 = .ok (.goto 4, 3) := by decide +kernel
theorem dX12_length_12 : decode cX12_length 12 = .ok (.iconst 1, 1) := by decide +kernel
theorem dX12_length_13 : decode cX12_length 13 = .ok (.invokevirtual 181, 3) := by decide +kernel
theorem dX12_length_16 : decode cX12_length 16 = .ok (.ifCond .eq 12, 3) := by decide +kernel
theorem dX12_length_19 : decode cX12_length 19 = .ok (.aload_n 0, 1) := by decide +kernel
theorem dX12_length_20 : decode cX12_length 20 = .ok (.getfield 13, 3) := by decide +kernel
theorem dX12_length_23 : decode cX12_length 23 = .ok (.iload_n 1, 1) := by decide +kernel
theorem dX12_length_24 : decode cX12_length 24 = .ok (.iaload, 1) := by decide +kernel
theorem dX12_length_25 : decode cX12_length 25 = .ok (.goto 4, 3) := by decide +kernel
theorem dX12_length_28 : decode cX12_length 28 = .ok (.iconst 0, 1) := by decide +kernel
theorem dX12_length_29 : decode cX12_length 29 = .ok (.ireturn, 1) := by decide +kernel
theorem dX12_sign_0 : decode cX12_sign 0 = .ok (.iload_n 1, 1) := by decide +kernel
theorem dX12_sign_1 : decode cX12_sign 1 = .ok (.invokestatic 178, 3) := by decide +kernel
theorem dX12_sign_4 : decode cX12_sign 4 = .ok (.istore_n 3, 1) := by decide +kernel
theorem dX12_sign_5 : decode cX12_sign 5 = .ok (.aload_n 0, 1) := by decide +kernel
theorem dX12_sign_6 : decode cX12_sign 6 = .ok (.iload_n 3, 1) := by decide +kernel
theorem dX12_sign_7 : decode cX12_sign 7 = .ok (.ifCond .ne 7, 3) := by decide +kernel
theorem dX12_sign_10 : decode cX12_sign 10 = .ok (.iconst 1, 1) := by decide +kernel
theorem dX12_sign_11 : decode cX12_sign 11 = .ok (.goto 24, 3) := by decide +kernel
theorem dX12_sign_14 : decode cX12_sign 14 = .ok (.iload_n 2, 1) := by decide +kernel
theorem dX12_sign_15 : decode cX12_sign 15 = .ok (.iconst 0, 1) := by decide +kernel
theorem dX12_sign_16 : decode cX12_sign 16 = .ok (.aload_n 0, 1) := by decide +kernel
theorem dX12_sign_17 : decode cX12_sign 17 = .ok (.getfield 13, 3) := by decide +kernel
theorem dX12_sign_20 : decode cX12_sign 20 = .ok (.iload_n 1, 1) := by decide +kernel
theorem dX12_sign_21 : decode cX12_sign 21 = .ok (.iaload, 1) := by decide +kernel
theorem dX12_sign_22 : decode cX12_sign 22 = .ok (.iconst 1, 1) := by decide +kernel
theorem dX12_sign_23 : decode cX12_sign 23 = .ok (.isub, 1) := by decide +kernel
theorem dX12_sign_24 : decode cX12_sign 24 = .ok (.invokestatic 167, 3) := by decide +kernel
theorem dX12_sign_27 : decode cX12_sign 27 = .ok (.ifCond .eq 7, 3) := by decide +kernel
theorem dX12_sign_30 : decode cX12_sign 30 = .ok (.iconst 0, 1) := by decide +kernel
theorem dX12_sign_31 : decode cX12_sign 31 = .ok (.goto 4, 3) := by decide +kernel
theorem dX12_sign_34 : decode cX12_sign 34 = .ok (.iconst 2, 1) := by decide +kernel
theorem dX12_sign_35 : decode cX12_sign 35 = .ok (.invokevirtual 181, 3) := by decide +kernel
theorem dX12_sign_38 : decode cX12_sign 38 = .ok (.ifCond .eq 12, 3) := by decide +kernel
theorem dX12_sign_41 : decode cX12_sign 41 = .ok (.aload_n 0, 1) := by decide +kernel
theorem dX12_sign_42 : decode cX12_sign 42 = .ok (.iload_n 1, 1) := by decide +kernel
theorem dX12_sign_43 : decode cX12_sign 43 = .ok (.iload_n 2, 1) := by decide +kernel
theorem dX12_sign_44 : decode cX12_sign 44 = .ok (.invokevirtual 184, 3) := by decide +kernel
theorem dX12_sign_47 : decode cX12_sign 47 = .ok (.goto 4, 3) := by decide +kernel
theorem dX12_sign_50 : decode cX12_sign 50 = .ok (.iconst 0, 1) := by decide +kernel
theorem dX12_sign_51 : decode cX12_sign 51 = .ok (.ireturn, 1) := by decide +kernel
theorem dX12_read_0 : decode cX12_read 0 = .ok (.iload_n 0, 1) := by decide +kernel
theorem dX12_read_1 : decode cX12_read 1 = .ok (.invokestatic 171, 3) := by decide +kernel
theorem dX12_read_4 : decode cX12_read 4 = .ok (.ifCond .eq 26, 3) := by decide +kernel
theorem dX12_read_7 : decode cX12_read 7 = .ok (.iload_n 1, 1) := by decide +kernel
theorem dX12_read_8 : decode cX12_read 8 = .ok (.iconst 2, 1) := by decide +kernel
theorem dX12_read_9 : decode cX12_read 9 = .ok (.if_icmp .ge 7, 3) := by decide +kernel
theorem dX12_read_12 : decode cX12_read 12 = .ok (.iconst 3, 1) := by decide +kernel
theorem dX12_read_13 : decode cX12_read 13 = .ok (.goto 16, 3) := by decide +kernel
theorem dX12_read_16 : decode cX12_read 16 = .ok (.iload_n 1, 1) := by decide +kernel
theorem dX12_read_17 : decode cX12_read 17 = .ok (.bipush 8, 2) := by decide +kernel
theorem dX12_read_19 : decode cX12_read 19 = .ok (.if_icmp .ge 9, 3) := by decide +kernel
theorem dX12_read_22 : decode cX12_read 22 = .ok (.iload_n 1, 1) := by decide +kernel
theorem dX12_read_23 : decode cX12_read 23 = .ok (.iconst 1, 1) := by decide +kernel
theorem dX12_read_24 : decode cX12_read 24 = .ok (.iadd, 1) := by decide +kernel
theorem dX12_read_25 : decode cX12_read 25 = .ok (.goto 4, 3) := by decide +kernel
theorem dX12_read_28 : decode cX12_read 28 = .ok (.iconst (-1), 1) := by decide +kernel
theorem dX12_read_29 : decode cX12_read 29 = .ok (.ireturn, 1) := by decide +kernel
theorem dX12_read_30 : decode cX12_read 30 = .ok (.iload_n 0, 1) := by decide +kernel
theorem dX12_read_31 : decode cX12_read 31 = .ok (.invokestatic 175, 3) := by decide +kernel
theorem dX12_read_34 : decode cX12_read 34 = .ok (.ifCond .eq 32, 3) := by decide +kernel
theorem dX12_read_37 : decode cX12_read 37 = .ok (.iload_n 1, 1) := by decide +kernel
theorem dX12_read_38 : decode cX12_read 38 = .ok (.ifCond .ne 8, 3) := by decide +kernel
theorem dX12_read_41 : decode cX12_read 41 = .ok (.bipush 11, 2) := by decide +kernel
theorem dX12_read_43 : decode cX12_read 43 = .ok (.goto 22, 3) := by decide +kernel
theorem dX12_read_46 : decode cX12_read 46 = .ok (.iload_n 1, 1) := by decide +kernel
theorem dX12_read_47 : decode cX12_read 47 = .ok (.bipush 10, 2) := by decide +kernel
theorem dX12_read_49 : decode cX12_read 49 = .ok (.if_icmp .le 15, 3) := by decide +kernel
theorem dX12_read_52 : decode cX12_read 52 = .ok (.iload_n 1, 1) := by decide +kernel
theorem dX12_read_53 : decode cX12_read 53 = .ok (.bipush 16, 2) := by decide +kernel
theorem dX12_read_55 : decode cX12_read 55 = .ok (.if_icmp .ge 9, 3) := by decide +kernel
theorem dX12_read_58 : decode cX12_read 58 = .ok (.iload_n 1, 1) := by decide +kernel
theorem dX12_read_59 : decode cX12_read 59 = .ok (.iconst 1, 1) := by decide +kernel
theorem dX12_read_60 : decode cX12_read 60 = .ok (.iadd, 1) := by decide +kernel
theorem dX12_read_61 : decode cX12_read 61 = .ok (.goto 4, 3) := by decide +kernel
theorem dX12_read_64 : decode cX12_read 64 = .ok (.iconst (-1), 1) := by decide +kernel
theorem dX12_read_65 : decode cX12_read 65 = .ok (.ireturn, 1) := by decide +kernel
theorem dX12_read_66 : decode cX12_read 66 = .ok (.iload_n 0, 1) := by decide +kernel
theorem dX12_read_67 : decode cX12_read 67 = .ok (.bipush 45, 2) := by decide +kernel
theorem dX12_read_69 : decode cX12_read 69 = .ok (.if_icmp .ne 13, 3) := by decide +kernel
theorem dX12_read_72 : decode cX12_read 72 = .ok (.iload_n 1, 1) := by decide +kernel
theorem dX12_read_73 : decode cX12_read 73 = .ok (.ifCond .ne 7, 3) := by decide +kernel
theorem dX12_read_76 : decode cX12_read 76 = .ok (.iconst 1, 1) := by decide +kernel
theorem dX12_read_77 : decode cX12_read 77 = .ok (.goto 4, 3) := by decide +kernel
theorem dX12_read_80 : decode cX12_read 80 = .ok (.iconst (-1), 1) := by decide +kernel
theorem dX12_read_81 : decode cX12_read 81 = .ok (.ireturn, 1) := by decide +kernel
theorem dX12_read_82 : decode cX12_read 82 = .ok (.iload_n 1, 1) := by decide +kernel
theorem dX12_read_83 : decode cX12_read 83 = .ok (.iconst 1, 1) := by decide +kernel
theorem dX12_read_84 : decode cX12_read 84 = .ok (.if_icmp .ne 7, 3) := by decide +kernel
theorem dX12_read_87 : decode cX12_read 87 = .ok (.iconst (-1), 1) := by decide +kernel
theorem dX12_read_88 : decode cX12_read 88 = .ok (.goto 4, 3) := by decide +kernel
theorem dX12_read_91 : decode cX12_read 91 = .ok (.iconst 0, 1) := by decide +kernel
theorem dX12_read_92 : decode cX12_read 92 = .ok (.ireturn, 1) := by decide +kernel
theorem dX12_faultOf_0 : decode cX12_faultOf 0 = .ok (.iconst 0, 1) := by decide +kernel
theorem dX12_faultOf_1 : decode cX12_faultOf 1 = .ok (.istore_n 2, 1) := by decide +kernel
theorem dX12_faultOf_2 : decode cX12_faultOf 2 = .ok (.iconst 0, 1) := by decide +kernel
theorem dX12_faultOf_3 : decode cX12_faultOf 3 = .ok (.istore_n 3, 1) := by decide +kernel
theorem dX12_faultOf_4 : decode cX12_faultOf 4 = .ok (.iconst 0, 1) := by decide +kernel
theorem dX12_faultOf_5 : decode cX12_faultOf 5 = .ok (.istore 4, 2) := by decide +kernel
theorem dX12_faultOf_7 : decode cX12_faultOf 7 = .ok (.iload 4, 2) := by decide +kernel
theorem dX12_faultOf_9 : decode cX12_faultOf 9 = .ok (.aload_n 0, 1) := by decide +kernel
theorem dX12_faultOf_10 : decode cX12_faultOf 10 = .ok (.getfield 13, 3) := by decide +kernel
theorem dX12_faultOf_13 : decode cX12_faultOf 13 = .ok (.iload_n 1, 1) := by decide +kernel
theorem dX12_faultOf_14 : decode cX12_faultOf 14 = .ok (.iaload, 1) := by decide +kernel
theorem dX12_faultOf_15 : decode cX12_faultOf 15 = .ok (.if_icmp .ge 69, 3) := by decide +kernel
theorem dX12_faultOf_18 : decode cX12_faultOf 18 = .ok (.aload_n 0, 1) := by decide +kernel
theorem dX12_faultOf_19 : decode cX12_faultOf 19 = .ok (.iload_n 1, 1) := by decide +kernel
theorem dX12_faultOf_20 : decode cX12_faultOf 20 = .ok (.iload 4, 2) := by decide +kernel
theorem dX12_faultOf_22 : decode cX12_faultOf 22 = .ok (.invokevirtual 184, 3) := by decide +kernel
theorem dX12_faultOf_25 : decode cX12_faultOf 25 = .ok (.istore 5, 2) := by decide +kernel
theorem dX12_faultOf_27 : decode cX12_faultOf 27 = .ok (.iload 5, 2) := by decide +kernel
theorem dX12_faultOf_29 : decode cX12_faultOf 29 = .ok (.iload_n 3, 1) := by decide +kernel
theorem dX12_faultOf_30 : decode cX12_faultOf 30 = .ok (.invokestatic 188, 3) := by decide +kernel
theorem dX12_faultOf_33 : decode cX12_faultOf 33 = .ok (.istore_n 3, 1) := by decide +kernel
theorem dX12_faultOf_34 : decode cX12_faultOf 34 = .ok (.iload_n 2, 1) := by decide +kernel
theorem dX12_faultOf_35 : decode cX12_faultOf 35 = .ok (.iload 5, 2) := by decide +kernel
theorem dX12_faultOf_37 : decode cX12_faultOf 37 = .ok (.bipush 40, 2) := by decide +kernel
theorem dX12_faultOf_39 : decode cX12_faultOf 39 = .ok (.if_icmp .ne 7, 3) := by decide +kernel
theorem dX12_faultOf_42 : decode cX12_faultOf 42 = .ok (.iconst 1, 1) := by decide +kernel
theorem dX12_faultOf_43 : decode cX12_faultOf 43 = .ok (.goto 15, 3) := by decide +kernel
theorem dX12_faultOf_46 : decode cX12_faultOf 46 = .ok (.iload 5, 2) := by decide +kernel
theorem dX12_faultOf_48 : decode cX12_faultOf 48 = .ok (.bipush 41, 2) := by decide +kernel
theorem dX12_faultOf_50 : decode cX12_faultOf 50 = .ok (.if_icmp .ne 7, 3) := by decide +kernel
theorem dX12_faultOf_53 : decode cX12_faultOf 53 = .ok (.iconst (-1), 1) := by decide +kernel
theorem dX12_faultOf_54 : decode cX12_faultOf 54 = .ok (.goto 4, 3) := by decide +kernel
theorem dX12_faultOf_57 : decode cX12_faultOf 57 = .ok (.iconst 0, 1) := by decide +kernel
theorem dX12_faultOf_58 : decode cX12_faultOf 58 = .ok (.iadd, 1) := by decide +kernel
theorem dX12_faultOf_59 : decode cX12_faultOf 59 = .ok (.istore_n 2, 1) := by decide +kernel
theorem dX12_faultOf_60 : decode cX12_faultOf 60 = .ok (.iload_n 3, 1) := by decide +kernel
theorem dX12_faultOf_61 : decode cX12_faultOf 61 = .ok (.iconst (-1), 1) := by decide +kernel
theorem dX12_faultOf_62 : decode cX12_faultOf 62 = .ok (.if_icmp .eq 13, 3) := by decide +kernel
theorem dX12_faultOf_65 : decode cX12_faultOf 65 = .ok (.iload_n 2, 1) := by decide +kernel
theorem dX12_faultOf_66 : decode cX12_faultOf 66 = .ok (.ifCond .lt 9, 3) := by decide +kernel
theorem dX12_faultOf_69 : decode cX12_faultOf 69 = .ok (.iload_n 2, 1) := by decide +kernel
theorem dX12_faultOf_70 : decode cX12_faultOf 70 = .ok (.bipush 20, 2) := by decide +kernel
theorem dX12_faultOf_72 : decode cX12_faultOf 72 = .ok (.if_icmp .le 6, 3) := by decide +kernel
theorem dX12_faultOf_75 : decode cX12_faultOf 75 = .ok (.iload 4, 2) := by decide +kernel
theorem dX12_faultOf_77 : decode cX12_faultOf 77 = .ok (.ireturn, 1) := by decide +kernel
theorem dX12_faultOf_78 : decode cX12_faultOf 78 = .ok (.iinc 4 1, 3) := by decide +kernel
theorem dX12_faultOf_81 : decode cX12_faultOf 81 = .ok (.goto (-74), 3) := by decide +kernel
theorem dX12_faultOf_84 : decode cX12_faultOf 84 = .ok (.iload_n 2, 1) := by decide +kernel
theorem dX12_faultOf_85 : decode cX12_faultOf 85 = .ok (.ifCond .gt 8, 3) := by decide +kernel
theorem dX12_faultOf_88 : decode cX12_faultOf 88 = .ok (.iload_n 3, 1) := by decide +kernel
theorem dX12_faultOf_89 : decode cX12_faultOf 89 = .ok (.iconst 1, 1) := by decide +kernel
theorem dX12_faultOf_90 : decode cX12_faultOf 90 = .ok (.if_icmp .ne 12, 3) := by decide +kernel
theorem dX12_faultOf_93 : decode cX12_faultOf 93 = .ok (.aload_n 0, 1) := by decide +kernel
theorem dX12_faultOf_94 : decode cX12_faultOf 94 = .ok (.getfield 13, 3) := by decide +kernel
theorem dX12_faultOf_97 : decode cX12_faultOf 97 = .ok (.iload_n 1, 1) := by decide +kernel
theorem dX12_faultOf_98 : decode cX12_faultOf 98 = .ok (.iaload, 1) := by decide +kernel
theorem dX12_faultOf_99 : decode cX12_faultOf 99 = .ok (.goto 4, 3) := by decide +kernel
theorem dX12_faultOf_102 : decode cX12_faultOf 102 = .ok (.iconst (-1), 1) := by decide +kernel
theorem dX12_faultOf_103 : decode cX12_faultOf 103 = .ok (.ireturn, 1) := by decide +kernel
theorem dX12_fault_0 : decode cX12_fault 0 = .ok (.aload_n 0, 1) := by decide +kernel
theorem dX12_fault_1 : decode cX12_fault 1 = .ok (.iload_n 1, 1) := by decide +kernel
theorem dX12_fault_2 : decode cX12_fault 2 = .ok (.invokestatic 178, 3) := by decide +kernel
theorem dX12_fault_5 : decode cX12_fault 5 = .ok (.ifCond .eq 7, 3) := by decide +kernel
theorem dX12_fault_8 : decode cX12_fault 8 = .ok (.iconst 0, 1) := by decide +kernel
theorem dX12_fault_9 : decode cX12_fault 9 = .ok (.goto 4, 3) := by decide +kernel
theorem dX12_fault_12 : decode cX12_fault 12 = .ok (.iconst 1, 1) := by decide +kernel
theorem dX12_fault_13 : decode cX12_fault 13 = .ok (.invokevirtual 181, 3) := by decide +kernel
theorem dX12_fault_16 : decode cX12_fault 16 = .ok (.ifCond .eq 11, 3) := by decide +kernel
theorem dX12_fault_19 : decode cX12_fault 19 = .ok (.aload_n 0, 1) := by decide +kernel
theorem dX12_fault_20 : decode cX12_fault 20 = .ok (.iload_n 1, 1) := by decide +kernel
theorem dX12_fault_21 : decode cX12_fault 21 = .ok (.invokevirtual 191, 3) := by decide +kernel
theorem dX12_fault_24 : decode cX12_fault 24 = .ok (.goto 4, 3) := by decide +kernel
theorem dX12_fault_27 : decode cX12_fault 27 = .ok (.iconst 0, 1) := by decide +kernel
theorem dX12_fault_28 : decode cX12_fault 28 = .ok (.ireturn, 1) := by decide +kernel
theorem dX12_nextAt_0 : decode cX12_nextAt 0 = .ok (.iload_n 2, 1) := by decide +kernel
theorem dX12_nextAt_1 : decode cX12_nextAt 1 = .ok (.istore_n 3, 1) := by decide +kernel
theorem dX12_nextAt_2 : decode cX12_nextAt 2 = .ok (.aload_n 0, 1) := by decide +kernel
theorem dX12_nextAt_3 : decode cX12_nextAt 3 = .ok (.iload_n 1, 1) := by decide +kernel
theorem dX12_nextAt_4 : decode cX12_nextAt 4 = .ok (.iload_n 3, 1) := by decide +kernel
theorem dX12_nextAt_5 : decode cX12_nextAt 5 = .ok (.invokevirtual 184, 3) := by decide +kernel
theorem dX12_nextAt_8 : decode cX12_nextAt 8 = .ok (.bipush 32, 2) := by decide +kernel
theorem dX12_nextAt_10 : decode cX12_nextAt 10 = .ok (.if_icmp .ne 9, 3) := by decide +kernel
theorem dX12_nextAt_13 : decode cX12_nextAt 13 = .ok (.iinc 3 1, 3) := by decide +kernel
theorem dX12_nextAt_16 : decode cX12_nextAt 16 = .ok (.goto (-14), 3) := by decide +kernel
theorem dX12_nextAt_19 : decode cX12_nextAt 19 = .ok (.aload_n 0, 1) := by decide +kernel
theorem dX12_nextAt_20 : decode cX12_nextAt 20 = .ok (.iload_n 1, 1) := by decide +kernel
theorem dX12_nextAt_21 : decode cX12_nextAt 21 = .ok (.iload_n 3, 1) := by decide +kernel
theorem dX12_nextAt_22 : decode cX12_nextAt 22 = .ok (.invokevirtual 184, 3) := by decide +kernel
theorem dX12_nextAt_25 : decode cX12_nextAt 25 = .ok (.istore 4, 2) := by decide +kernel
theorem dX12_nextAt_27 : decode cX12_nextAt 27 = .ok (.iload 4, 2) := by decide +kernel
theorem dX12_nextAt_29 : decode cX12_nextAt 29 = .ok (.ifCond .eq 10, 3) := by decide +kernel
theorem dX12_nextAt_32 : decode cX12_nextAt 32 = .ok (.iload 4, 2) := by decide +kernel
theorem dX12_nextAt_34 : decode cX12_nextAt 34 = .ok (.bipush 41, 2) := by decide +kernel
theorem dX12_nextAt_36 : decode cX12_nextAt 36 = .ok (.if_icmp .ne 7, 3) := by decide +kernel
theorem dX12_nextAt_39 : decode cX12_nextAt 39 = .ok (.iconst (-1), 1) := by decide +kernel
theorem dX12_nextAt_40 : decode cX12_nextAt 40 = .ok (.goto 4, 3) := by decide +kernel
theorem dX12_nextAt_43 : decode cX12_nextAt 43 = .ok (.iload_n 3, 1) := by decide +kernel
theorem dX12_nextAt_44 : decode cX12_nextAt 44 = .ok (.ireturn, 1) := by decide +kernel
theorem dX12_endOf_0 : decode cX12_endOf 0 = .ok (.iconst 0, 1) := by decide +kernel
theorem dX12_endOf_1 : decode cX12_endOf 1 = .ok (.istore_n 3, 1) := by decide +kernel
theorem dX12_endOf_2 : decode cX12_endOf 2 = .ok (.iload_n 2, 1) := by decide +kernel
theorem dX12_endOf_3 : decode cX12_endOf 3 = .ok (.istore 4, 2) := by decide +kernel
theorem dX12_endOf_5 : decode cX12_endOf 5 = .ok (.iconst 1, 1) := by decide +kernel
theorem dX12_endOf_6 : decode cX12_endOf 6 = .ok (.istore 5, 2) := by decide +kernel
theorem dX12_endOf_8 : decode cX12_endOf 8 = .ok (.iload 5, 2) := by decide +kernel
theorem dX12_endOf_10 : decode cX12_endOf 10 = .ok (.ifCond .eq 106, 3) := by decide +kernel
theorem dX12_endOf_13 : decode cX12_endOf 13 = .ok (.aload_n 0, 1) := by decide +kernel
theorem dX12_endOf_14 : decode cX12_endOf 14 = .ok (.iload_n 1, 1) := by decide +kernel
theorem dX12_endOf_15 : decode cX12_endOf 15 = .ok (.iload 4, 2) := by decide +kernel
theorem dX12_endOf_17 : decode cX12_endOf 17 = .ok (.invokevirtual 184, 3) := by decide +kernel
theorem dX12_endOf_20 : decode cX12_endOf 20 = .ok (.istore 6, 2) := by decide +kernel
theorem dX12_endOf_22 : decode cX12_endOf 22 = .ok (.iload_n 3, 1) := by decide +kernel
theorem dX12_endOf_23 : decode cX12_endOf 23 = .ok (.iload 6, 2) := by decide +kernel
theorem dX12_endOf_25 : decode cX12_endOf 25 = .ok (.bipush 40, 2) := by decide +kernel
theorem dX12_endOf_27 : decode cX12_endOf 27 = .ok (.if_icmp .ne 7, 3) := by decide +kernel
theorem dX12_endOf_30 : decode cX12_endOf 30 = .ok (.iconst 1, 1) := by decide +kernel
theorem dX12_endOf_31 : decode cX12_endOf 31 = .ok (.goto 15, 3) := by decide +kernel
theorem dX12_endOf_34 : decode cX12_endOf 34 = .ok (.iload 6, 2) := by decide +kernel
theorem dX12_endOf_36 : decode cX12_endOf 36 = .ok (.bipush 41, 2) := by decide +kernel
theorem dX12_endOf_38 : decode cX12_endOf 38 = .ok (.if_icmp .ne 7, 3) := by decide +kernel
theorem dX12_endOf_41 : decode cX12_endOf 41 = .ok (.iconst (-1), 1) := by decide +kernel
theorem dX12_endOf_42 : decode cX12_endOf 42 = .ok (.goto 4, 3) := by decide +kernel
theorem dX12_endOf_45 : decode cX12_endOf 45 = .ok (.iconst 0, 1) := by decide +kernel
theorem dX12_endOf_46 : decode cX12_endOf 46 = .ok (.iadd, 1) := by decide +kernel
theorem dX12_endOf_47 : decode cX12_endOf 47 = .ok (.istore_n 3, 1) := by decide +kernel
theorem dX12_endOf_48 : decode cX12_endOf 48 = .ok (.iinc 4 1, 3) := by decide +kernel
theorem dX12_endOf_51 : decode cX12_endOf 51 = .ok (.aload_n 0, 1) := by decide +kernel
theorem dX12_endOf_52 : decode cX12_endOf 52 = .ok (.iload_n 1, 1) := by decide +kernel
theorem dX12_endOf_53 : decode cX12_endOf 53 = .ok (.iload 4, 2) := by decide +kernel
theorem dX12_endOf_55 : decode cX12_endOf 55 = .ok (.invokevirtual 184, 3) := by decide +kernel
theorem dX12_endOf_58 : decode cX12_endOf 58 = .ok (.istore 7, 2) := by decide +kernel
theorem dX12_endOf_60 : decode cX12_endOf 60 = .ok (.iload 7, 2) := by decide +kernel
theorem dX12_endOf_62 : decode cX12_endOf 62 = .ok (.invokestatic 171, 3) := by decide +kernel
theorem dX12_endOf_65 : decode cX12_endOf 65 = .ok (.ifCond .ne 11, 3) := by decide +kernel
theorem dX12_endOf_68 : decode cX12_endOf 68 = .ok (.iload 7, 2) := by decide +kernel
theorem dX12_endOf_70 : decode cX12_endOf 70 = .ok (.invokestatic 175, 3) := by decide +kernel
theorem dX12_endOf_73 : decode cX12_endOf 73 = .ok (.ifCond .eq 7, 3) := by decide +kernel
theorem dX12_endOf_76 : decode cX12_endOf 76 = .ok (.iconst 1, 1) := by decide +kernel
theorem dX12_endOf_77 : decode cX12_endOf 77 = .ok (.goto 4, 3) := by decide +kernel
theorem dX12_endOf_80 : decode cX12_endOf 80 = .ok (.iconst 0, 1) := by decide +kernel
theorem dX12_endOf_81 : decode cX12_endOf 81 = .ok (.istore 8, 2) := by decide +kernel
theorem dX12_endOf_83 : decode cX12_endOf 83 = .ok (.iload_n 3, 1) := by decide +kernel
theorem dX12_endOf_84 : decode cX12_endOf 84 = .ok (.ifCond .gt 22, 3) := by decide +kernel
theorem dX12_endOf_87 : decode cX12_endOf 87 = .ok (.iload 6, 2) := by decide +kernel
theorem dX12_endOf_89 : decode cX12_endOf 89 = .ok (.bipush 40, 2) := by decide +kernel
theorem dX12_endOf_91 : decode cX12_endOf 91 = .ok (.if_icmp .eq 19, 3) := by decide +kernel
theorem dX12_endOf_94 : decode cX12_endOf 94 = .ok (.iload 6, 2) := by decide +kernel
theorem dX12_endOf_96 : decode cX12_endOf 96 = .ok (.bipush 41, 2) := by decide +kernel
theorem dX12_endOf_98 : decode cX12_endOf 98 = .ok (.if_icmp .eq 12, 3) := by decide +kernel
theorem dX12_endOf_101 : decode cX12_endOf 101 = .ok (.iload 8, 2) := by decide +kernel
theorem dX12_endOf_103 : decode cX12_endOf 103 = .ok (.ifCond .eq 7, 3) := by decide +kernel
theorem dX12_endOf_106 : decode cX12_endOf 106 = .ok (.iconst 1, 1) := by decide +kernel
theorem dX12_endOf_107 : decode cX12_endOf 107 = .ok (.goto 4, 3) := by decide +kernel
theorem dX12_endOf_110 : decode cX12_endOf 110 = .ok (.iconst 0, 1) := by decide +kernel
theorem dX12_endOf_111 : decode cX12_endOf 111 = .ok (.istore 5, 2) := by decide +kernel
theorem dX12_endOf_113 : decode cX12_endOf 113 = .ok (.goto (-105), 3) := by decide +kernel
theorem dX12_endOf_116 : decode cX12_endOf 116 = .ok (.iload 4, 2) := by decide +kernel
theorem dX12_endOf_118 : decode cX12_endOf 118 = .ok (.ireturn, 1) := by decide +kernel
theorem dX12_following_0 : decode cX12_following 0 = .ok (.aload_n 0, 1) := by decide +kernel
theorem dX12_following_1 : decode cX12_following 1 = .ok (.iload_n 1, 1) := by decide +kernel
theorem dX12_following_2 : decode cX12_following 2 = .ok (.aload_n 0, 1) := by decide +kernel
theorem dX12_following_3 : decode cX12_following 3 = .ok (.iload_n 1, 1) := by decide +kernel
theorem dX12_following_4 : decode cX12_following 4 = .ok (.iload_n 2, 1) := by decide +kernel
theorem dX12_following_5 : decode cX12_following 5 = .ok (.invokevirtual 195, 3) := by decide +kernel
theorem dX12_following_8 : decode cX12_following 8 = .ok (.invokevirtual 198, 3) := by decide +kernel
theorem dX12_following_11 : decode cX12_following 11 = .ok (.ireturn, 1) := by decide +kernel
theorem dX12_countFrom_0 : decode cX12_countFrom 0 = .ok (.iconst 0, 1) := by decide +kernel
theorem dX12_countFrom_1 : decode cX12_countFrom 1 = .ok (.istore_n 3, 1) := by decide +kernel
theorem dX12_countFrom_2 : decode cX12_countFrom 2 = .ok (.iload_n 2, 1) := by decide +kernel
theorem dX12_countFrom_3 : decode cX12_countFrom 3 = .ok (.istore 4, 2) := by decide +kernel
theorem dX12_countFrom_5 : decode cX12_countFrom 5 = .ok (.iload 4, 2) := by decide +kernel
theorem dX12_countFrom_7 : decode cX12_countFrom 7 = .ok (.iconst (-1), 1) := by decide +kernel
theorem dX12_countFrom_8 : decode cX12_countFrom 8 = .ok (.if_icmp .eq 18, 3) := by decide +kernel
theorem dX12_countFrom_11 : decode cX12_countFrom 11 = .ok (.iinc 3 1, 3) := by decide +kernel
theorem dX12_countFrom_14 : decode cX12_countFrom 14 = .ok (.aload_n 0, 1) := by decide +kernel
theorem dX12_countFrom_15 : decode cX12_countFrom 15 = .ok (.iload_n 1, 1) := by decide +kernel
theorem dX12_countFrom_16 : decode cX12_countFrom 16 = .ok (.iload 4, 2) := by decide +kernel
theorem dX12_countFrom_18 : decode cX12_countFrom 18 = .ok (.invokevirtual 201, 3) := by decide +kernel
theorem dX12_countFrom_21 : decode cX12_countFrom 21 = .ok (.istore 4, 2) := by decide +kernel
theorem dX12_countFrom_23 : decode cX12_countFrom 23 = .ok (.goto (-18), 3) := by decide +kernel
theorem dX12_countFrom_26 : decode cX12_countFrom 26 = .ok (.iload_n 3, 1) := by decide +kernel
theorem dX12_countFrom_27 : decode cX12_countFrom 27 = .ok (.ireturn, 1) := by decide +kernel
theorem dX12_expressions_0 : decode cX12_expressions 0 = .ok (.iload_n 1, 1) := by decide +kernel
theorem dX12_expressions_1 : decode cX12_expressions 1 = .ok (.invokestatic 178, 3) := by decide +kernel
theorem dX12_expressions_4 : decode cX12_expressions 4 = .ok (.istore_n 2, 1) := by decide +kernel
theorem dX12_expressions_5 : decode cX12_expressions 5 = .ok (.aload_n 0, 1) := by decide +kernel
theorem dX12_expressions_6 : decode cX12_expressions 6 = .ok (.iload_n 2, 1) := by decide +kernel
theorem dX12_expressions_7 : decode cX12_expressions 7 = .ok (.ifCond .ne 7, 3) := by decide +kernel
theorem dX12_expressions_10 : decode cX12_expressions 10 = .ok (.iconst 1, 1) := by decide +kernel
theorem dX12_expressions_11 : decode cX12_expressions 11 = .ok (.goto 17, 3) := by decide +kernel
theorem dX12_expressions_14 : decode cX12_expressions 14 = .ok (.aload_n 0, 1) := by decide +kernel
theorem dX12_expressions_15 : decode cX12_expressions 15 = .ok (.iload_n 1, 1) := by decide +kernel
theorem dX12_expressions_16 : decode cX12_expressions 16 = .ok (.invokevirtual 191, 3) := by decide +kernel
theorem dX12_expressions_19 : decode cX12_expressions 19 = .ok (.iconst (-1), 1) := by decide +kernel
theorem dX12_expressions_20 : decode cX12_expressions 20 = .ok (.if_icmp .eq 7, 3) := by decide +kernel
theorem dX12_expressions_23 : decode cX12_expressions 23 = .ok (.iconst 2, 1) := by decide +kernel
theorem dX12_expressions_24 : decode cX12_expressions 24 = .ok (.goto 4, 3) := by decide +kernel
theorem dX12_expressions_27 : decode cX12_expressions 27 = .ok (.iconst 0, 1) := by decide +kernel
theorem dX12_expressions_28 : decode cX12_expressions 28 = .ok (.invokevirtual 181, 3) := by decide +kernel
theorem dX12_expressions_31 : decode cX12_expressions 31 = .ok (.ifCond .ne 5, 3) := by decide +kernel
theorem dX12_expressions_34 : decode cX12_expressions 34 = .ok (.iconst 0, 1) := by decide +kernel
theorem dX12_expressions_35 : decode cX12_expressions 35 = .ok (.ireturn, 1) := by decide +kernel
theorem dX12_expressions_36 : decode cX12_expressions 36 = .ok (.aload_n 0, 1) := by decide +kernel
theorem dX12_expressions_37 : decode cX12_expressions 37 = .ok (.iload_n 1, 1) := by decide +kernel
theorem dX12_expressions_38 : decode cX12_expressions 38 = .ok (.aload_n 0, 1) := by decide +kernel
theorem dX12_expressions_39 : decode cX12_expressions 39 = .ok (.iload_n 1, 1) := by decide +kernel
theorem dX12_expressions_40 : decode cX12_expressions 40 = .ok (.iconst 0, 1) := by decide +kernel
theorem dX12_expressions_41 : decode cX12_expressions 41 = .ok (.invokevirtual 198, 3) := by decide +kernel
theorem dX12_expressions_44 : decode cX12_expressions 44 = .ok (.invokevirtual 204, 3) := by decide +kernel
theorem dX12_expressions_47 : decode cX12_expressions 47 = .ok (.ireturn, 1) := by decide +kernel
theorem dX12_isName_0 : decode cX12_isName 0 = .ok (.iload_n 2, 1) := by decide +kernel
theorem dX12_isName_1 : decode cX12_isName 1 = .ok (.iconst (-1), 1) := by decide +kernel
theorem dX12_isName_2 : decode cX12_isName 2 = .ok (.if_icmp .eq 19, 3) := by decide +kernel
theorem dX12_isName_5 : decode cX12_isName 5 = .ok (.aload_n 0, 1) := by decide +kernel
theorem dX12_isName_6 : decode cX12_isName 6 = .ok (.iload_n 1, 1) := by decide +kernel
theorem dX12_isName_7 : decode cX12_isName 7 = .ok (.iload_n 2, 1) := by decide +kernel
theorem dX12_isName_8 : decode cX12_isName 8 = .ok (.invokevirtual 184, 3) := by decide +kernel
theorem dX12_isName_11 : decode cX12_isName 11 = .ok (.invokestatic 175, 3) := by decide +kernel
theorem dX12_isName_14 : decode cX12_isName 14 = .ok (.ifCond .eq 7, 3) := by decide +kernel
theorem dX12_isName_17 : decode cX12_isName 17 = .ok (.iconst 1, 1) := by decide +kernel
theorem dX12_isName_18 : decode cX12_isName 18 = .ok (.goto 4, 3) := by decide +kernel
theorem dX12_isName_21 : decode cX12_isName 21 = .ok (.iconst 0, 1) := by decide +kernel
theorem dX12_isName_22 : decode cX12_isName 22 = .ok (.ireturn, 1) := by decide +kernel
theorem dX12_nameAt_0 : decode cX12_nameAt 0 = .ok (.iconst 0, 1) := by decide +kernel
theorem dX12_nameAt_1 : decode cX12_nameAt 1 = .ok (.istore_n 3, 1) := by decide +kernel
theorem dX12_nameAt_2 : decode cX12_nameAt 2 = .ok (.iload_n 2, 1) := by decide +kernel
theorem dX12_nameAt_3 : decode cX12_nameAt 3 = .ok (.istore 4, 2) := by decide +kernel
theorem dX12_nameAt_5 : decode cX12_nameAt 5 = .ok (.aload_n 0, 1) := by decide +kernel
theorem dX12_nameAt_6 : decode cX12_nameAt 6 = .ok (.iload_n 1, 1) := by decide +kernel
theorem dX12_nameAt_7 : decode cX12_nameAt 7 = .ok (.iload 4, 2) := by decide +kernel
theorem dX12_nameAt_9 : decode cX12_nameAt 9 = .ok (.invokevirtual 184, 3) := by decide +kernel
theorem dX12_nameAt_12 : decode cX12_nameAt 12 = .ok (.invokestatic 175, 3) := by decide +kernel
theorem dX12_nameAt_15 : decode cX12_nameAt 15 = .ok (.ifCond .eq 25, 3) := by decide +kernel
theorem dX12_nameAt_18 : decode cX12_nameAt 18 = .ok (.bipush 27, 2) := by decide +kernel
theorem dX12_nameAt_20 : decode cX12_nameAt 20 = .ok (.iload_n 3, 1) := by decide +kernel
theorem dX12_nameAt_21 : decode cX12_nameAt 21 = .ok (.imul, 1) := by decide +kernel
theorem dX12_nameAt_22 : decode cX12_nameAt 22 = .ok (.aload_n 0, 1) := by decide +kernel
theorem dX12_nameAt_23 : decode cX12_nameAt 23 = .ok (.iload_n 1, 1) := by decide +kernel
theorem dX12_nameAt_24 : decode cX12_nameAt 24 = .ok (.iload 4, 2) := by decide +kernel
theorem dX12_nameAt_26 : decode cX12_nameAt 26 = .ok (.invokevirtual 184, 3) := by decide +kernel
theorem dX12_nameAt_29 : decode cX12_nameAt 29 = .ok (.iadd, 1) := by decide +kernel
theorem dX12_nameAt_30 : decode cX12_nameAt 30 = .ok (.bipush 96, 2) := by decide +kernel
theorem dX12_nameAt_32 : decode cX12_nameAt 32 = .ok (.isub, 1) := by decide +kernel
theorem dX12_nameAt_33 : decode cX12_nameAt 33 = .ok (.istore_n 3, 1) := by decide +kernel
theorem dX12_nameAt_34 : decode cX12_nameAt 34 = .ok (.iinc 4 1, 3) := by decide +kernel
theorem dX12_nameAt_37 : decode cX12_nameAt 37 = .ok (.goto (-32), 3) := by decide +kernel
theorem dX12_nameAt_40 : decode cX12_nameAt 40 = .ok (.iload_n 3, 1) := by decide +kernel
theorem dX12_nameAt_41 : decode cX12_nameAt 41 = .ok (.ireturn, 1) := by decide +kernel
theorem dX12_numberAt_0 : decode cX12_numberAt 0 = .ok (.iconst 0, 1) := by decide +kernel
theorem dX12_numberAt_1 : decode cX12_numberAt 1 = .ok (.istore_n 3, 1) := by decide +kernel
theorem dX12_numberAt_2 : decode cX12_numberAt 2 = .ok (.aload_n 0, 1) := by decide +kernel
theorem dX12_numberAt_3 : decode cX12_numberAt 3 = .ok (.iload_n 1, 1) := by decide +kernel
theorem dX12_numberAt_4 : decode cX12_numberAt 4 = .ok (.iload_n 2, 1) := by decide +kernel
theorem dX12_numberAt_5 : decode cX12_numberAt 5 = .ok (.invokevirtual 184, 3) := by decide +kernel
theorem dX12_numberAt_8 : decode cX12_numberAt 8 = .ok (.bipush 45, 2) := by decide +kernel
theorem dX12_numberAt_10 : decode cX12_numberAt 10 = .ok (.if_icmp .ne 7, 3) := by decide +kernel
theorem dX12_numberAt_13 : decode cX12_numberAt 13 = .ok (.iconst 1, 1) := by decide +kernel
theorem dX12_numberAt_14 : decode cX12_numberAt 14 = .ok (.goto 4, 3) := by decide +kernel
theorem dX12_numberAt_17 : decode cX12_numberAt 17 = .ok (.iconst 0, 1) := by decide +kernel
theorem dX12_numberAt_18 : decode cX12_numberAt 18 = .ok (.istore 4, 2) := by decide +kernel
theorem dX12_numberAt_20 : decode cX12_numberAt 20 = .ok (.iload 4, 2) := by decide +kernel
theorem dX12_numberAt_22 : decode cX12_numberAt 22 = .ok (.ifCond .eq 9, 3) := by decide +kernel
theorem dX12_numberAt_25 : decode cX12_numberAt 25 = .ok (.iload_n 2, 1) := by decide +kernel
theorem dX12_numberAt_26 : decode cX12_numberAt 26 = .ok (.iconst 1, 1) := by decide +kernel
theorem dX12_numberAt_27 : decode cX12_numberAt 27 = .ok (.iadd, 1) := by decide +kernel
theorem dX12_numberAt_28 : decode cX12_numberAt 28 = .ok (.goto 4, 3) := by decide +kernel
theorem dX12_numberAt_31 : decode cX12_numberAt 31 = .ok (.iload_n 2, 1) := by decide +kernel
theorem dX12_numberAt_32 : decode cX12_numberAt 32 = .ok (.istore 5, 2) := by decide +kernel
theorem dX12_numberAt_34 : decode cX12_numberAt 34 = .ok (.aload_n 0, 1) := by decide +kernel
theorem dX12_numberAt_35 : decode cX12_numberAt 35 = .ok (.iload_n 1, 1) := by decide +kernel
theorem dX12_numberAt_36 : decode cX12_numberAt 36 = .ok (.iload 5, 2) := by decide +kernel
theorem dX12_numberAt_38 : decode cX12_numberAt 38 = .ok (.invokevirtual 184, 3) := by decide +kernel
theorem dX12_numberAt_41 : decode cX12_numberAt 41 = .ok (.invokestatic 171, 3) := by decide +kernel
theorem dX12_numberAt_44 : decode cX12_numberAt 44 = .ok (.ifCond .eq 25, 3) := by decide +kernel
theorem dX12_numberAt_47 : decode cX12_numberAt 47 = .ok (.bipush 10, 2) := by decide +kernel
theorem dX12_numberAt_49 : decode cX12_numberAt 49 = .ok (.iload_n 3, 1) := by decide +kernel
theorem dX12_numberAt_50 : decode cX12_numberAt 50 = .ok (.imul, 1) := by decide +kernel
theorem dX12_numberAt_51 : decode cX12_numberAt 51 = .ok (.aload_n 0, 1) := by decide +kernel
theorem dX12_numberAt_52 : decode cX12_numberAt 52 = .ok (.iload_n 1, 1) := by decide +kernel
theorem dX12_numberAt_53 : decode cX12_numberAt 53 = .ok (.iload 5, 2) := by decide +kernel
theorem dX12_numberAt_55 : decode cX12_numberAt 55 = .ok (.invokevirtual 184, 3) := by decide +kernel
theorem dX12_numberAt_58 : decode cX12_numberAt 58 = .ok (.iadd, 1) := by decide +kernel
theorem dX12_numberAt_59 : decode cX12_numberAt 59 = .ok (.bipush 48, 2) := by decide +kernel
theorem dX12_numberAt_61 : decode cX12_numberAt 61 = .ok (.isub, 1) := by decide +kernel
theorem dX12_numberAt_62 : decode cX12_numberAt 62 = .ok (.istore_n 3, 1) := by decide +kernel
theorem dX12_numberAt_63 : decode cX12_numberAt 63 = .ok (.iinc 5 1, 3) := by decide +kernel
theorem dX12_numberAt_66 : decode cX12_numberAt 66 = .ok (.goto (-32), 3) := by decide +kernel
theorem dX12_numberAt_69 : decode cX12_numberAt 69 = .ok (.iload 4, 2) := by decide +kernel
theorem dX12_numberAt_71 : decode cX12_numberAt 71 = .ok (.ifCond .eq 8, 3) := by decide +kernel
theorem dX12_numberAt_74 : decode cX12_numberAt 74 = .ok (.iload_n 3, 1) := by decide +kernel
theorem dX12_numberAt_75 : decode cX12_numberAt 75 = .ok (.ineg, 1) := by decide +kernel
theorem dX12_numberAt_76 : decode cX12_numberAt 76 = .ok (.goto 4, 3) := by decide +kernel
theorem dX12_numberAt_79 : decode cX12_numberAt 79 = .ok (.iload_n 3, 1) := by decide +kernel
theorem dX12_numberAt_80 : decode cX12_numberAt 80 = .ok (.ireturn, 1) := by decide +kernel
theorem dX12_goodAt_0 : decode cX12_goodAt 0 = .ok (.aload_n 0, 1) := by decide +kernel
theorem dX12_goodAt_1 : decode cX12_goodAt 1 = .ok (.iload_n 1, 1) := by decide +kernel
theorem dX12_goodAt_2 : decode cX12_goodAt 2 = .ok (.iload_n 2, 1) := by decide +kernel
theorem dX12_goodAt_3 : decode cX12_goodAt 3 = .ok (.invokevirtual 207, 3) := by decide +kernel
theorem dX12_goodAt_6 : decode cX12_goodAt 6 = .ok (.ifCond .eq 12, 3) := by decide +kernel
theorem dX12_goodAt_9 : decode cX12_goodAt 9 = .ok (.aload_n 0, 1) := by decide +kernel
theorem dX12_goodAt_10 : decode cX12_goodAt 10 = .ok (.iload_n 1, 1) := by decide +kernel
theorem dX12_goodAt_11 : decode cX12_goodAt 11 = .ok (.iload_n 2, 1) := by decide +kernel
theorem dX12_goodAt_12 : decode cX12_goodAt 12 = .ok (.invokevirtual 211, 3) := by decide +kernel
theorem dX12_goodAt_15 : decode cX12_goodAt 15 = .ok (.goto 4, 3) := by decide +kernel
theorem dX12_goodAt_18 : decode cX12_goodAt 18 = .ok (.iconst 0, 1) := by decide +kernel
theorem dX12_goodAt_19 : decode cX12_goodAt 19 = .ok (.istore_n 3, 1) := by decide +kernel
theorem dX12_goodAt_20 : decode cX12_goodAt 20 = .ok (.iload_n 3, 1) := by decide +kernel
theorem dX12_goodAt_21 : decode cX12_goodAt 21 = .ok (.iconst 1, 1) := by decide +kernel
theorem dX12_goodAt_22 : decode cX12_goodAt 22 = .ok (.bipush 8, 2) := by decide +kernel
theorem dX12_goodAt_24 : decode cX12_goodAt 24 = .ok (.invokestatic 167, 3) := by decide +kernel
theorem dX12_goodAt_27 : decode cX12_goodAt 27 = .ok (.ifCond .eq 9, 3) := by decide +kernel
theorem dX12_goodAt_30 : decode cX12_goodAt 30 = .ok (.iload_n 3, 1) := by decide +kernel
theorem dX12_goodAt_31 : decode cX12_goodAt 31 = .ok (.iconst 1, 1) := by decide +kernel
theorem dX12_goodAt_32 : decode cX12_goodAt 32 = .ok (.isub, 1) := by decide +kernel
theorem dX12_goodAt_33 : decode cX12_goodAt 33 = .ok (.goto 4, 3) := by decide +kernel
theorem dX12_goodAt_36 : decode cX12_goodAt 36 = .ok (.iconst (-1), 1) := by decide +kernel
theorem dX12_goodAt_37 : decode cX12_goodAt 37 = .ok (.ireturn, 1) := by decide +kernel
theorem dX12_opOf_0 : decode cX12_opOf 0 = .ok (.iconst (-1), 1) := by decide +kernel
theorem dX12_opOf_1 : decode cX12_opOf 1 = .ok (.istore_n 2, 1) := by decide +kernel
theorem dX12_opOf_2 : decode cX12_opOf 2 = .ok (.iconst 0, 1) := by decide +kernel
theorem dX12_opOf_3 : decode cX12_opOf 3 = .ok (.istore_n 3, 1) := by decide +kernel
theorem dX12_opOf_4 : decode cX12_opOf 4 = .ok (.iload_n 3, 1) := by decide +kernel
theorem dX12_opOf_5 : decode cX12_opOf 5 = .ok (.bipush 26, 2) := by decide +kernel
theorem dX12_opOf_7 : decode cX12_opOf 7 = .ok (.if_icmp .ge 25, 3) := by decide +kernel
theorem dX12_opOf_10 : decode cX12_opOf 10 = .ok (.aload_n 0, 1) := by decide +kernel
theorem dX12_opOf_11 : decode cX12_opOf 11 = .ok (.getfield 89, 3) := by decide +kernel
theorem dX12_opOf_14 : decode cX12_opOf 14 = .ok (.iload_n 3, 1) := by decide +kernel
theorem dX12_opOf_15 : decode cX12_opOf 15 = .ok (.iaload, 1) := by decide +kernel
theorem dX12_opOf_16 : decode cX12_opOf 16 = .ok (.iload_n 1, 1) := by decide +kernel
theorem dX12_opOf_17 : decode cX12_opOf 17 = .ok (.if_icmp .ne 7, 3) := by decide +kernel
theorem dX12_opOf_20 : decode cX12_opOf 20 = .ok (.iload_n 3, 1) := by decide +kernel
theorem dX12_opOf_21 : decode cX12_opOf 21 = .ok (.goto 4, 3) := by decide +kernel
theorem dX12_opOf_24 : decode cX12_opOf 24 = .ok (.iload_n 2, 1) := by decide +kernel
theorem dX12_opOf_25 : decode cX12_opOf 25 = .ok (.istore_n 2, 1) := by decide +kernel
theorem dX12_opOf_26 : decode cX12_opOf 26 = .ok (.iinc 3 1, 3) := by decide +kernel
theorem dX12_opOf_29 : decode cX12_opOf 29 = .ok (.goto (-25), 3) := by decide +kernel
theorem dX12_opOf_32 : decode cX12_opOf 32 = .ok (.iload_n 2, 1) := by decide +kernel
theorem dX12_opOf_33 : decode cX12_opOf 33 = .ok (.ireturn, 1) := by decide +kernel
theorem dX12_functionOf_0 : decode cX12_functionOf 0 = .ok (.iconst (-1), 1) := by decide +kernel
theorem dX12_functionOf_1 : decode cX12_functionOf 1 = .ok (.istore_n 2, 1) := by decide +kernel
theorem dX12_functionOf_2 : decode cX12_functionOf 2 = .ok (.iconst 0, 1) := by decide +kernel
theorem dX12_functionOf_3 : decode cX12_functionOf 3 = .ok (.istore_n 3, 1) := by decide +kernel
theorem dX12_functionOf_4 : decode cX12_functionOf 4 = .ok (.iload_n 3, 1) := by decide +kernel
theorem dX12_functionOf_5 : decode cX12_functionOf 5 = .ok (.aload_n 0, 1) := by decide +kernel
theorem dX12_functionOf_6 : decode cX12_functionOf 6 = .ok (.getfield 214, 3) := by decide +kernel
theorem dX12_functionOf_9 : decode cX12_functionOf 9 = .ok (.if_icmp .ge 25, 3) := by decide +kernel
theorem dX12_functionOf_12 : decode cX12_functionOf 12 = .ok (.aload_n 0, 1) := by decide +kernel
theorem dX12_functionOf_13 : decode cX12_functionOf 13 = .ok (.getfield 149, 3) := by decide +kernel
theorem dX12_functionOf_16 : decode cX12_functionOf 16 = .ok (.iload_n 3, 1) := by decide +kernel
theorem dX12_functionOf_17 : decode cX12_functionOf 17 = .ok (.iaload, 1) := by decide +kernel
theorem dX12_functionOf_18 : decode cX12_functionOf 18 = .ok (.iload_n 1, 1) := by decide +kernel
theorem dX12_functionOf_19 : decode cX12_functionOf 19 = .ok (.if_icmp .ne 7, 3) := by decide +kernel
theorem dX12_functionOf_22 : decode cX12_functionOf 22 = .ok (.iload_n 3, 1) := by decide +kernel
theorem dX12_functionOf_23 : decode cX12_functionOf 23 = .ok (.goto 4, 3) := by decide +kernel
theorem dX12_functionOf_26 : decode cX12_functionOf 26 = .ok (.iload_n 2, 1) := by decide +kernel
theorem dX12_functionOf_27 : decode cX12_functionOf 27 = .ok (.istore_n 2, 1) := by decide +kernel
theorem dX12_functionOf_28 : decode cX12_functionOf 28 = .ok (.iinc 3 1, 3) := by decide +kernel
theorem dX12_functionOf_31 : decode cX12_functionOf 31 = .ok (.goto (-27), 3) := by decide +kernel
theorem dX12_functionOf_34 : decode cX12_functionOf 34 = .ok (.iload_n 2, 1) := by decide +kernel
theorem dX12_functionOf_35 : decode cX12_functionOf 35 = .ok (.ireturn, 1) := by decide +kernel
theorem dX12_buyFuel_0 : decode cX12_buyFuel 0 = .ok (.iload_n 2, 1) := by decide +kernel
theorem dX12_buyFuel_1 : decode cX12_buyFuel 1 = .ok (.aload_n 0, 1) := by decide +kernel
theorem dX12_buyFuel_2 : decode cX12_buyFuel 2 = .ok (.getfield 35, 3) := by decide +kernel
theorem dX12_buyFuel_5 : decode cX12_buyFuel 5 = .ok (.imul, 1) := by decide +kernel
theorem dX12_buyFuel_6 : decode cX12_buyFuel 6 = .ok (.istore_n 3, 1) := by decide +kernel
theorem dX12_buyFuel_7 : decode cX12_buyFuel 7 = .ok (.iload_n 3, 1) := by decide +kernel
theorem dX12_buyFuel_8 : decode cX12_buyFuel 8 = .ok (.iconst 2, 1) := by decide +kernel
theorem dX12_buyFuel_9 : decode cX12_buyFuel 9 = .ok (.idiv, 1) := by decide +kernel
theorem dX12_buyFuel_10 : decode cX12_buyFuel 10 = .ok (.istore 4, 2) := by decide +kernel
theorem dX12_buyFuel_12 : decode cX12_buyFuel 12 = .ok (.aload_n 0, 1) := by decide +kernel
theorem dX12_buyFuel_13 : decode cX12_buyFuel 13 = .ok (.getfield 19, 3) := by decide +kernel
theorem dX12_buyFuel_16 : decode cX12_buyFuel 16 = .ok (.iload_n 1, 1) := by decide +kernel
theorem dX12_buyFuel_17 : decode cX12_buyFuel 17 = .ok (.dup2, 1) := by decide +kernel
theorem dX12_buyFuel_18 : decode cX12_buyFuel 18 = .ok (.iaload, 1) := by decide +kernel
theorem dX12_buyFuel_19 : decode cX12_buyFuel 19 = .ok (.iload_n 2, 1) := by decide +kernel
theorem dX12_buyFuel_20 : decode cX12_buyFuel 20 = .ok (.isub, 1) := by decide +kernel
theorem dX12_buyFuel_21 : decode cX12_buyFuel 21 = .ok (.iastore, 1) := by decide +kernel
theorem dX12_buyFuel_22 : decode cX12_buyFuel 22 = .ok (.aload_n 0, 1) := by decide +kernel
theorem dX12_buyFuel_23 : decode cX12_buyFuel 23 = .ok (.getfield 22, 3) := by decide +kernel
theorem dX12_buyFuel_26 : decode cX12_buyFuel 26 = .ok (.iload_n 1, 1) := by decide +kernel
theorem dX12_buyFuel_27 : decode cX12_buyFuel 27 = .ok (.dup2, 1) := by decide +kernel
theorem dX12_buyFuel_28 : decode cX12_buyFuel 28 = .ok (.iaload, 1) := by decide +kernel
theorem dX12_buyFuel_29 : decode cX12_buyFuel 29 = .ok (.iload_n 3, 1) := by decide +kernel
theorem dX12_buyFuel_30 : decode cX12_buyFuel 30 = .ok (.iadd, 1) := by decide +kernel
theorem dX12_buyFuel_31 : decode cX12_buyFuel 31 = .ok (.iastore, 1) := by decide +kernel
theorem dX12_buyFuel_32 : decode cX12_buyFuel 32 = .ok (.iconst 0, 1) := by decide +kernel
theorem dX12_buyFuel_33 : decode cX12_buyFuel 33 = .ok (.istore 5, 2) := by decide +kernel
theorem dX12_buyFuel_35 : decode cX12_buyFuel 35 = .ok (.iload 5, 2) := by decide +kernel
theorem dX12_buyFuel_37 : decode cX12_buyFuel 37 = .ok (.iconst 4, 1) := by decide +kernel
theorem dX12_buyFuel_38 : decode cX12_buyFuel 38 = .ok (.if_icmp .ge 84, 3) := by decide +kernel
theorem dX12_buyFuel_41 : decode cX12_buyFuel 41 = .ok (.aload_n 0, 1) := by decide +kernel
theorem dX12_buyFuel_42 : decode cX12_buyFuel 42 = .ok (.getfield 25, 3) := by decide +kernel
theorem dX12_buyFuel_45 : decode cX12_buyFuel 45 = .ok (.iconst 4, 1) := by decide +kernel
theorem dX12_buyFuel_46 : decode cX12_buyFuel 46 = .ok (.iload_n 1, 1) := by decide +kernel
theorem dX12_buyFuel_47 : decode cX12_buyFuel 47 = .ok (.imul, 1) := by decide +kernel
theorem dX12_buyFuel_48 : decode cX12_buyFuel 48 = .ok (.iload 5, 2) := by decide +kernel
theorem dX12_buyFuel_50 : decode cX12_buyFuel 50 = .ok (.iadd, 1) := by decide +kernel
theorem dX12_buyFuel_51 : decode cX12_buyFuel 51 = .ok (.iaload, 1) := by decide +kernel
theorem dX12_buyFuel_52 : decode cX12_buyFuel 52 = .ok (.istore 6, 2) := by decide +kernel
theorem dX12_buyFuel_54 : decode cX12_buyFuel 54 = .ok (.iload 6, 2) := by decide +kernel
theorem dX12_buyFuel_56 : decode cX12_buyFuel 56 = .ok (.iload 4, 2) := by decide +kernel
theorem dX12_buyFuel_58 : decode cX12_buyFuel 58 = .ok (.if_icmp .ge 8, 3) := by decide +kernel
theorem dX12_buyFuel_61 : decode cX12_buyFuel 61 = .ok (.iload 6, 2) := by decide +kernel
theorem dX12_buyFuel_63 : decode cX12_buyFuel 63 = .ok (.goto 5, 3) := by decide +kernel
theorem dX12_buyFuel_66 : decode cX12_buyFuel 66 = .ok (.iload 4, 2) := by decide +kernel
theorem dX12_buyFuel_68 : decode cX12_buyFuel 68 = .ok (.istore 7, 2) := by decide +kernel
theorem dX12_buyFuel_70 : decode cX12_buyFuel 70 = .ok (.aload_n 0, 1) := by decide +kernel
theorem dX12_buyFuel_71 : decode cX12_buyFuel 71 = .ok (.getfield 25, 3) := by decide +kernel
theorem dX12_buyFuel_74 : decode cX12_buyFuel 74 = .ok (.iconst 4, 1) := by decide +kernel
theorem dX12_buyFuel_75 : decode cX12_buyFuel 75 = .ok (.iload_n 1, 1) := by decide +kernel
theorem dX12_buyFuel_76 : decode cX12_buyFuel 76 = .ok (.imul, 1) := by decide +kernel
theorem dX12_buyFuel_77 : decode cX12_buyFuel 77 = .ok (.iload 5, 2) := by decide +kernel
theorem dX12_buyFuel_79 : decode cX12_buyFuel 79 = .ok (.iadd, 1) := by decide +kernel
theorem dX12_buyFuel_80 : decode cX12_buyFuel 80 = .ok (.dup2, 1) := by decide +kernel
theorem dX12_buyFuel_81 : decode cX12_buyFuel 81 = .ok (.iaload, 1) := by decide +kernel
theorem dX12_buyFuel_82 : decode cX12_buyFuel 82 = .ok (.iload 7, 2) := by decide +kernel
theorem dX12_buyFuel_84 : decode cX12_buyFuel 84 = .ok (.isub, 1) := by decide +kernel
theorem dX12_buyFuel_85 : decode cX12_buyFuel 85 = .ok (.iastore, 1) := by decide +kernel
theorem dX12_buyFuel_86 : decode cX12_buyFuel 86 = .ok (.aload_n 0, 1) := by decide +kernel
theorem dX12_buyFuel_87 : decode cX12_buyFuel 87 = .ok (.getfield 22, 3) := by decide +kernel
theorem dX12_buyFuel_90 : decode cX12_buyFuel 90 = .ok (.iload 5, 2) := by decide +kernel
theorem dX12_buyFuel_92 : decode cX12_buyFuel 92 = .ok (.dup2, 1) := by decide +kernel
theorem dX12_buyFuel_93 : decode cX12_buyFuel 93 = .ok (.iaload, 1) := by decide +kernel
theorem dX12_buyFuel_94 : decode cX12_buyFuel 94 = .ok (.iload 7, 2) := by decide +kernel
theorem dX12_buyFuel_96 : decode cX12_buyFuel 96 = .ok (.iadd, 1) := by decide +kernel
theorem dX12_buyFuel_97 : decode cX12_buyFuel 97 = .ok (.iastore, 1) := by decide +kernel
theorem dX12_buyFuel_98 : decode cX12_buyFuel 98 = .ok (.aload_n 0, 1) := by decide +kernel
theorem dX12_buyFuel_99 : decode cX12_buyFuel 99 = .ok (.getfield 22, 3) := by decide +kernel
theorem dX12_buyFuel_102 : decode cX12_buyFuel 102 = .ok (.iload_n 1, 1) := by decide +kernel
theorem dX12_buyFuel_103 : decode cX12_buyFuel 103 = .ok (.dup2, 1) := by decide +kernel
theorem dX12_buyFuel_104 : decode cX12_buyFuel 104 = .ok (.iaload, 1) := by decide +kernel
theorem dX12_buyFuel_105 : decode cX12_buyFuel 105 = .ok (.iload 7, 2) := by decide +kernel
theorem dX12_buyFuel_107 : decode cX12_buyFuel 107 = .ok (.isub, 1) := by decide +kernel
theorem dX12_buyFuel_108 : decode cX12_buyFuel 108 = .ok (.iastore, 1) := by decide +kernel
theorem dX12_buyFuel_109 : decode cX12_buyFuel 109 = .ok (.iload 4, 2) := by decide +kernel
theorem dX12_buyFuel_111 : decode cX12_buyFuel 111 = .ok (.iload 7, 2) := by decide +kernel
theorem dX12_buyFuel_113 : decode cX12_buyFuel 113 = .ok (.isub, 1) := by decide +kernel
theorem dX12_buyFuel_114 : decode cX12_buyFuel 114 = .ok (.istore 4, 2) := by decide +kernel
theorem dX12_buyFuel_116 : decode cX12_buyFuel 116 = .ok (.iinc 5 1, 3) := by decide +kernel
theorem dX12_buyFuel_119 : decode cX12_buyFuel 119 = .ok (.goto (-84), 3) := by decide +kernel
theorem dX12_buyFuel_122 : decode cX12_buyFuel 122 = .ok (.iload_n 3, 1) := by decide +kernel
theorem dX12_buyFuel_123 : decode cX12_buyFuel 123 = .ok (.ireturn, 1) := by decide +kernel
theorem dX12_lenderOf_0 : decode cX12_lenderOf 0 = .ok (.iconst 0, 1) := by decide +kernel
theorem dX12_lenderOf_1 : decode cX12_lenderOf 1 = .ok (.istore_n 2, 1) := by decide +kernel
theorem dX12_lenderOf_2 : decode cX12_lenderOf 2 = .ok (.iload_n 2, 1) := by decide +kernel
theorem dX12_lenderOf_3 : decode cX12_lenderOf 3 = .ok (.iconst 4, 1) := by decide +kernel
theorem dX12_lenderOf_4 : decode cX12_lenderOf 4 = .ok (.if_icmp .ge 58, 3) := by decide +kernel
theorem dX12_lenderOf_7 : decode cX12_lenderOf 7 = .ok (.iload_n 2, 1) := by decide +kernel
theorem dX12_lenderOf_8 : decode cX12_lenderOf 8 = .ok (.iload_n 1, 1) := by decide +kernel
theorem dX12_lenderOf_9 : decode cX12_lenderOf 9 = .ok (.if_icmp .eq 16, 3) := by decide +kernel
theorem dX12_lenderOf_12 : decode cX12_lenderOf 12 = .ok (.aload_n 0, 1) := by decide +kernel
theorem dX12_lenderOf_13 : decode cX12_lenderOf 13 = .ok (.getfield 22, 3) := by decide +kernel
theorem dX12_lenderOf_16 : decode cX12_lenderOf 16 = .ok (.iload_n 2, 1) := by decide +kernel
theorem dX12_lenderOf_17 : decode cX12_lenderOf 17 = .ok (.iaload, 1) := by decide +kernel
theorem dX12_lenderOf_18 : decode cX12_lenderOf 18 = .ok (.ifCond .le 7, 3) := by decide +kernel
theorem dX12_lenderOf_21 : decode cX12_lenderOf 21 = .ok (.iconst 1, 1) := by decide +kernel
theorem dX12_lenderOf_22 : decode cX12_lenderOf 22 = .ok (.goto 4, 3) := by decide +kernel
theorem dX12_lenderOf_25 : decode cX12_lenderOf 25 = .ok (.iconst 0, 1) := by decide +kernel
theorem dX12_lenderOf_26 : decode cX12_lenderOf 26 = .ok (.istore_n 3, 1) := by decide +kernel
theorem dX12_lenderOf_27 : decode cX12_lenderOf 27 = .ok (.iload_n 3, 1) := by decide +kernel
theorem dX12_lenderOf_28 : decode cX12_lenderOf 28 = .ok (.ifCond .eq 28, 3) := by decide +kernel
theorem dX12_lenderOf_31 : decode cX12_lenderOf 31 = .ok (.aload_n 0, 1) := by decide +kernel
theorem dX12_lenderOf_32 : decode cX12_lenderOf 32 = .ok (.getfield 28, 3) := by decide +kernel
theorem dX12_lenderOf_35 : decode cX12_lenderOf 35 = .ok (.iconst 4, 1) := by decide +kernel
theorem dX12_lenderOf_36 : decode cX12_lenderOf 36 = .ok (.iload_n 2, 1) := by decide +kernel
theorem dX12_lenderOf_37 : decode cX12_lenderOf 37 = .ok (.imul, 1) := by decide +kernel
theorem dX12_lenderOf_38 : decode cX12_lenderOf 38 = .ok (.iload_n 1, 1) := by decide +kernel
theorem dX12_lenderOf_39 : decode cX12_lenderOf 39 = .ok (.iadd, 1) := by decide +kernel
theorem dX12_lenderOf_40 : decode cX12_lenderOf 40 = .ok (.iaload, 1) := by decide +kernel
theorem dX12_lenderOf_41 : decode cX12_lenderOf 41 = .ok (.aload_n 0, 1) := by decide +kernel
theorem dX12_lenderOf_42 : decode cX12_lenderOf 42 = .ok (.getfield 25, 3) := by decide +kernel
theorem dX12_lenderOf_45 : decode cX12_lenderOf 45 = .ok (.iconst 4, 1) := by decide +kernel
theorem dX12_lenderOf_46 : decode cX12_lenderOf 46 = .ok (.iload_n 1, 1) := by decide +kernel
theorem dX12_lenderOf_47 : decode cX12_lenderOf 47 = .ok (.imul, 1) := by decide +kernel
theorem dX12_lenderOf_48 : decode cX12_lenderOf 48 = .ok (.iload_n 2, 1) := by decide +kernel
theorem dX12_lenderOf_49 : decode cX12_lenderOf 49 = .ok (.iadd, 1) := by decide +kernel
theorem dX12_lenderOf_50 : decode cX12_lenderOf 50 = .ok (.iaload, 1) := by decide +kernel
theorem dX12_lenderOf_51 : decode cX12_lenderOf 51 = .ok (.if_icmp .le 5, 3) := by decide +kernel
theorem dX12_lenderOf_54 : decode cX12_lenderOf 54 = .ok (.iload_n 2, 1) := by decide +kernel
theorem dX12_lenderOf_55 : decode cX12_lenderOf 55 = .ok (.ireturn, 1) := by decide +kernel
theorem dX12_lenderOf_56 : decode cX12_lenderOf 56 = .ok (.iinc 2 1, 3) := by decide +kernel
theorem dX12_lenderOf_59 : decode cX12_lenderOf 59 = .ok (.goto (-57), 3) := by decide +kernel
theorem dX12_lenderOf_62 : decode cX12_lenderOf 62 = .ok (.iconst (-1), 1) := by decide +kernel
theorem dX12_lenderOf_63 : decode cX12_lenderOf 63 = .ok (.ireturn, 1) := by decide +kernel
theorem dX12_takesFuel_0 : decode cX12_takesFuel 0 = .ok (.aload_n 0, 1) := by decide +kernel
theorem dX12_takesFuel_1 : decode cX12_takesFuel 1 = .ok (.getfield 217, 3) := by decide +kernel
theorem dX12_takesFuel_4 : decode cX12_takesFuel 4 = .ok (.aload_n 0, 1) := by decide +kernel
theorem dX12_takesFuel_5 : decode cX12_takesFuel 5 = .ok (.getfield 48, 3) := by decide +kernel
theorem dX12_takesFuel_8 : decode cX12_takesFuel 8 = .ok (.aload_n 0, 1) := by decide +kernel
theorem dX12_takesFuel_9 : decode cX12_takesFuel 9 = .ok (.getfield 220, 3) := by decide +kernel
theorem dX12_takesFuel_12 : decode cX12_takesFuel 12 = .ok (.iaload, 1) := by decide +kernel
theorem dX12_takesFuel_13 : decode cX12_takesFuel 13 = .ok (.if_icmp .ne 5, 3) := by decide +kernel
theorem dX12_takesFuel_16 : decode cX12_takesFuel 16 = .ok (.iconst 0, 1) := by decide +kernel
theorem dX12_takesFuel_17 : decode cX12_takesFuel 17 = .ok (.ireturn, 1) := by decide +kernel
theorem dX12_takesFuel_18 : decode cX12_takesFuel 18 = .ok (.aload_n 0, 1) := by decide +kernel
theorem dX12_takesFuel_19 : decode cX12_takesFuel 19 = .ok (.getfield 22, 3) := by decide +kernel
theorem dX12_takesFuel_22 : decode cX12_takesFuel 22 = .ok (.aload_n 0, 1) := by decide +kernel
theorem dX12_takesFuel_23 : decode cX12_takesFuel 23 = .ok (.getfield 223, 3) := by decide +kernel
theorem dX12_takesFuel_26 : decode cX12_takesFuel 26 = .ok (.iaload, 1) := by decide +kernel
theorem dX12_takesFuel_27 : decode cX12_takesFuel 27 = .ok (.ifCond .ne 37, 3) := by decide +kernel
theorem dX12_takesFuel_30 : decode cX12_takesFuel 30 = .ok (.aload_n 0, 1) := by decide +kernel
theorem dX12_takesFuel_31 : decode cX12_takesFuel 31 = .ok (.getfield 31, 3) := by decide +kernel
theorem dX12_takesFuel_34 : decode cX12_takesFuel 34 = .ok (.aload_n 0, 1) := by decide +kernel
theorem dX12_takesFuel_35 : decode cX12_takesFuel 35 = .ok (.getfield 223, 3) := by decide +kernel
theorem dX12_takesFuel_38 : decode cX12_takesFuel 38 = .ok (.baload, 1) := by decide +kernel
theorem dX12_takesFuel_39 : decode cX12_takesFuel 39 = .ok (.ifCond .eq 25, 3) := by decide +kernel
theorem dX12_takesFuel_42 : decode cX12_takesFuel 42 = .ok (.aload_n 0, 1) := by decide +kernel
theorem dX12_takesFuel_43 : decode cX12_takesFuel 43 = .ok (.getfield 19, 3) := by decide +kernel
theorem dX12_takesFuel_46 : decode cX12_takesFuel 46 = .ok (.aload_n 0, 1) := by decide +kernel
theorem dX12_takesFuel_47 : decode cX12_takesFuel 47 = .ok (.getfield 223, 3) := by decide +kernel
theorem dX12_takesFuel_50 : decode cX12_takesFuel 50 = .ok (.iaload, 1) := by decide +kernel
theorem dX12_takesFuel_51 : decode cX12_takesFuel 51 = .ok (.ifCond .le 13, 3) := by decide +kernel
theorem dX12_takesFuel_54 : decode cX12_takesFuel 54 = .ok (.aload_n 0, 1) := by decide +kernel
theorem dX12_takesFuel_55 : decode cX12_takesFuel 55 = .ok (.aload_n 0, 1) := by decide +kernel
theorem dX12_takesFuel_56 : decode cX12_takesFuel 56 = .ok (.getfield 223, 3) := by decide +kernel
theorem dX12_takesFuel_59 : decode cX12_takesFuel 59 = .ok (.iconst 1, 1) := by decide +kernel
theorem dX12_takesFuel_60 : decode cX12_takesFuel 60 = .ok (.invokevirtual 226, 3) := by decide +kernel
theorem dX12_takesFuel_63 : decode cX12_takesFuel 63 = .ok (.istore_n 1, 1) := by decide +kernel
theorem dX12_takesFuel_64 : decode cX12_takesFuel 64 = .ok (.aload_n 0, 1) := by decide +kernel
theorem dX12_takesFuel_65 : decode cX12_takesFuel 65 = .ok (.getfield 22, 3) := by decide +kernel
theorem dX12_takesFuel_68 : decode cX12_takesFuel 68 = .ok (.aload_n 0, 1) := by decide +kernel
theorem dX12_takesFuel_69 : decode cX12_takesFuel 69 = .ok (.getfield 223, 3) := by decide +kernel
theorem dX12_takesFuel_72 : decode cX12_takesFuel 72 = .ok (.iaload, 1) := by decide +kernel
theorem dX12_takesFuel_73 : decode cX12_takesFuel 73 = .ok (.ifCond .le 19, 3) := by decide +kernel
theorem dX12_takesFuel_76 : decode cX12_takesFuel 76 = .ok (.aload_n 0, 1) := by decide +kernel
theorem dX12_takesFuel_77 : decode cX12_takesFuel 77 = .ok (.getfield 22, 3) := by decide +kernel
theorem dX12_takesFuel_80 : decode cX12_takesFuel 80 = .ok (.aload_n 0, 1) := by decide +kernel
theorem dX12_takesFuel_81 : decode cX12_takesFuel 81 = .ok (.getfield 223, 3) := by decide +kernel
theorem dX12_takesFuel_84 : decode cX12_takesFuel 84 = .ok (.dup2, 1) := by decide +kernel
theorem dX12_takesFuel_85 : decode cX12_takesFuel 85 = .ok (.iaload, 1) := by decide +kernel
theorem dX12_takesFuel_86 : decode cX12_takesFuel 86 = .ok (.iconst 1, 1) := by decide +kernel
theorem dX12_takesFuel_87 : decode cX12_takesFuel 87 = .ok (.isub, 1) := by decide +kernel
theorem dX12_takesFuel_88 : decode cX12_takesFuel 88 = .ok (.iastore, 1) := by decide +kernel
theorem dX12_takesFuel_89 : decode cX12_takesFuel 89 = .ok (.goto 46, 3) := by decide +kernel
theorem dX12_takesFuel_92 : decode cX12_takesFuel 92 = .ok (.aload_n 0, 1) := by decide +kernel
theorem dX12_takesFuel_93 : decode cX12_takesFuel 93 = .ok (.aload_n 0, 1) := by decide +kernel
theorem dX12_takesFuel_94 : decode cX12_takesFuel 94 = .ok (.getfield 223, 3) := by decide +kernel
theorem dX12_takesFuel_97 : decode cX12_takesFuel 97 = .ok (.invokevirtual 229, 3) := by decide +kernel
theorem dX12_takesFuel_100 : decode cX12_takesFuel 100 = .ok (.istore_n 1, 1) := by decide +kernel
theorem dX12_takesFuel_101 : decode cX12_takesFuel 101 = .ok (.iload_n 1, 1) := by decide +kernel
theorem dX12_takesFuel_102 : decode cX12_takesFuel 102 = .ok (.iconst (-1), 1) := by decide +kernel
theorem dX12_takesFuel_103 : decode cX12_takesFuel 103 = .ok (.if_icmp .ne 5, 3) := by decide +kernel
theorem dX12_takesFuel_106 : decode cX12_takesFuel 106 = .ok (.iconst 0, 1) := by decide +kernel
theorem dX12_takesFuel_107 : decode cX12_takesFuel 107 = .ok (.ireturn, 1) := by decide +kernel
theorem dX12_takesFuel_108 : decode cX12_takesFuel 108 = .ok (.aload_n 0, 1) := by decide +kernel
theorem dX12_takesFuel_109 : decode cX12_takesFuel 109 = .ok (.getfield 22, 3) := by decide +kernel
theorem dX12_takesFuel_112 : decode cX12_takesFuel 112 = .ok (.iload_n 1, 1) := by decide +kernel
theorem dX12_takesFuel_113 : decode cX12_takesFuel 113 = .ok (.dup2, 1) := by decide +kernel
theorem dX12_takesFuel_114 : decode cX12_takesFuel 114 = .ok (.iaload, 1) := by decide +kernel
theorem dX12_takesFuel_115 : decode cX12_takesFuel 115 = .ok (.iconst 1, 1) := by decide +kernel
theorem dX12_takesFuel_116 : decode cX12_takesFuel 116 = .ok (.isub, 1) := by decide +kernel
theorem dX12_takesFuel_117 : decode cX12_takesFuel 117 = .ok (.iastore, 1) := by decide +kernel
theorem dX12_takesFuel_118 : decode cX12_takesFuel 118 = .ok (.aload_n 0, 1) := by decide +kernel
theorem dX12_takesFuel_119 : decode cX12_takesFuel 119 = .ok (.getfield 25, 3) := by decide +kernel
theorem dX12_takesFuel_122 : decode cX12_takesFuel 122 = .ok (.iconst 4, 1) := by decide +kernel
theorem dX12_takesFuel_123 : decode cX12_takesFuel 123 = .ok (.aload_n 0, 1) := by decide +kernel
theorem dX12_takesFuel_124 : decode cX12_takesFuel 124 = .ok (.getfield 223, 3) := by decide +kernel
theorem dX12_takesFuel_127 : decode cX12_takesFuel 127 = .ok (.imul, 1) := by decide +kernel
theorem dX12_takesFuel_128 : decode cX12_takesFuel 128 = .ok (.iload_n 1, 1) := by decide +kernel
theorem dX12_takesFuel_129 : decode cX12_takesFuel 129 = .ok (.iadd, 1) := by decide +kernel
theorem dX12_takesFuel_130 : decode cX12_takesFuel 130 = .ok (.dup2, 1) := by decide +kernel
theorem dX12_takesFuel_131 : decode cX12_takesFuel 131 = .ok (.iaload, 1) := by decide +kernel
theorem dX12_takesFuel_132 : decode cX12_takesFuel 132 = .ok (.iconst 1, 1) := by decide +kernel
theorem dX12_takesFuel_133 : decode cX12_takesFuel 133 = .ok (.iadd, 1) := by decide +kernel
theorem dX12_takesFuel_134 : decode cX12_takesFuel 134 = .ok (.iastore, 1) := by decide +kernel
theorem dX12_takesFuel_135 : decode cX12_takesFuel 135 = .ok (.aload_n 0, 1) := by decide +kernel
theorem dX12_takesFuel_136 : decode cX12_takesFuel 136 = .ok (.dup, 1) := by decide +kernel
theorem dX12_takesFuel_137 : decode cX12_takesFuel 137 = .ok (.getfield 217, 3) := by decide +kernel
theorem dX12_takesFuel_140 : decode cX12_takesFuel 140 = .ok (.iconst 1, 1) := by decide +kernel
theorem dX12_takesFuel_141 : decode cX12_takesFuel 141 = .ok (.iadd, 1) := by decide +kernel
theorem dX12_takesFuel_142 : decode cX12_takesFuel 142 = .ok (.putfield 217, 3) := by decide +kernel
theorem dX12_takesFuel_145 : decode cX12_takesFuel 145 = .ok (.aload_n 0, 1) := by decide +kernel
theorem dX12_takesFuel_146 : decode cX12_takesFuel 146 = .ok (.getfield 63, 3) := by decide +kernel
theorem dX12_takesFuel_149 : decode cX12_takesFuel 149 = .ok (.aload_n 0, 1) := by decide +kernel
theorem dX12_takesFuel_150 : decode cX12_takesFuel 150 = .ok (.getfield 220, 3) := by decide +kernel
theorem dX12_takesFuel_153 : decode cX12_takesFuel 153 = .ok (.dup2, 1) := by decide +kernel
theorem dX12_takesFuel_154 : decode cX12_takesFuel 154 = .ok (.iaload, 1) := by decide +kernel
theorem dX12_takesFuel_155 : decode cX12_takesFuel 155 = .ok (.iconst 1, 1) := by decide +kernel
theorem dX12_takesFuel_156 : decode cX12_takesFuel 156 = .ok (.iadd, 1) := by decide +kernel
theorem dX12_takesFuel_157 : decode cX12_takesFuel 157 = .ok (.iastore, 1) := by decide +kernel
theorem dX12_takesFuel_158 : decode cX12_takesFuel 158 = .ok (.iconst 1, 1) := by decide +kernel
theorem dX12_takesFuel_159 : decode cX12_takesFuel 159 = .ok (.ireturn, 1) := by decide +kernel
theorem dX12_finish_0 : decode cX12_finish 0 = .ok (.aload_n 0, 1) := by decide +kernel
theorem dX12_finish_1 : decode cX12_finish 1 = .ok (.iload_n 1, 1) := by decide +kernel
theorem dX12_finish_2 : decode cX12_finish 2 = .ok (.putfield 232, 3) := by decide +kernel
theorem dX12_finish_5 : decode cX12_finish 5 = .ok (.aload_n 0, 1) := by decide +kernel
theorem dX12_finish_6 : decode cX12_finish 6 = .ok (.dup, 1) := by decide +kernel
theorem dX12_finish_7 : decode cX12_finish 7 = .ok (.getfield 235, 3) := by decide +kernel
theorem dX12_finish_10 : decode cX12_finish 10 = .ok (.iconst 1, 1) := by decide +kernel
theorem dX12_finish_11 : decode cX12_finish 11 = .ok (.isub, 1) := by decide +kernel
theorem dX12_finish_12 : decode cX12_finish 12 = .ok (.putfield 235, 3) := by decide +kernel
theorem dX12_finish_15 : decode cX12_finish 15 = .ok (.return_, 1) := by decide +kernel
theorem dX12_valueNext_0 : decode cX12_valueNext 0 = .ok (.aload_n 0, 1) := by decide +kernel
theorem dX12_valueNext_1 : decode cX12_valueNext 1 = .ok (.getfield 107, 3) := by decide +kernel
theorem dX12_valueNext_4 : decode cX12_valueNext 4 = .ok (.iload_n 1, 1) := by decide +kernel
theorem dX12_valueNext_5 : decode cX12_valueNext 5 = .ok (.iload_n 2, 1) := by decide +kernel
theorem dX12_valueNext_6 : decode cX12_valueNext 6 = .ok (.iastore, 1) := by decide +kernel
theorem dX12_valueNext_7 : decode cX12_valueNext 7 = .ok (.aload_n 0, 1) := by decide +kernel
theorem dX12_valueNext_8 : decode cX12_valueNext 8 = .ok (.iconst 1, 1) := by decide +kernel
theorem dX12_valueNext_9 : decode cX12_valueNext 9 = .ok (.putfield 238, 3) := by decide +kernel
theorem dX12_valueNext_12 : decode cX12_valueNext 12 = .ok (.aload_n 0, 1) := by decide +kernel
theorem dX12_valueNext_13 : decode cX12_valueNext 13 = .ok (.aload_n 0, 1) := by decide +kernel
theorem dX12_valueNext_14 : decode cX12_valueNext 14 = .ok (.getfield 98, 3) := by decide +kernel
theorem dX12_valueNext_17 : decode cX12_valueNext 17 = .ok (.iload_n 1, 1) := by decide +kernel
theorem dX12_valueNext_18 : decode cX12_valueNext 18 = .ok (.iaload, 1) := by decide +kernel
theorem dX12_valueNext_19 : decode cX12_valueNext 19 = .ok (.putfield 242, 3) := by decide +kernel
theorem dX12_valueNext_22 : decode cX12_valueNext 22 = .ok (.aload_n 0, 1) := by decide +kernel
theorem dX12_valueNext_23 : decode cX12_valueNext 23 = .ok (.iload_n 2, 1) := by decide +kernel
theorem dX12_valueNext_24 : decode cX12_valueNext 24 = .ok (.putfield 245, 3) := by decide +kernel
theorem dX12_valueNext_27 : decode cX12_valueNext 27 = .ok (.return_, 1) := by decide +kernel
theorem dX12_bindingOf_0 : decode cX12_bindingOf 0 = .ok (.iconst (-1), 1) := by decide +kernel
theorem dX12_bindingOf_1 : decode cX12_bindingOf 1 = .ok (.istore_n 2, 1) := by decide +kernel
theorem dX12_bindingOf_2 : decode cX12_bindingOf 2 = .ok (.aload_n 0, 1) := by decide +kernel
theorem dX12_bindingOf_3 : decode cX12_bindingOf 3 = .ok (.getfield 248, 3) := by decide +kernel
theorem dX12_bindingOf_6 : decode cX12_bindingOf 6 = .ok (.istore_n 3, 1) := by decide +kernel
theorem dX12_bindingOf_7 : decode cX12_bindingOf 7 = .ok (.iload_n 3, 1) := by decide +kernel
theorem dX12_bindingOf_8 : decode cX12_bindingOf 8 = .ok (.aload_n 0, 1) := by decide +kernel
theorem dX12_bindingOf_9 : decode cX12_bindingOf 9 = .ok (.getfield 251, 3) := by decide +kernel
theorem dX12_bindingOf_12 : decode cX12_bindingOf 12 = .ok (.if_icmp .ge 25, 3) := by decide +kernel
theorem dX12_bindingOf_15 : decode cX12_bindingOf 15 = .ok (.aload_n 0, 1) := by decide +kernel
theorem dX12_bindingOf_16 : decode cX12_bindingOf 16 = .ok (.getfield 143, 3) := by decide +kernel
theorem dX12_bindingOf_19 : decode cX12_bindingOf 19 = .ok (.iload_n 3, 1) := by decide +kernel
theorem dX12_bindingOf_20 : decode cX12_bindingOf 20 = .ok (.iaload, 1) := by decide +kernel
theorem dX12_bindingOf_21 : decode cX12_bindingOf 21 = .ok (.iload_n 1, 1) := by decide +kernel
theorem dX12_bindingOf_22 : decode cX12_bindingOf 22 = .ok (.if_icmp .ne 7, 3) := by decide +kernel
theorem dX12_bindingOf_25 : decode cX12_bindingOf 25 = .ok (.iload_n 3, 1) := by decide +kernel
theorem dX12_bindingOf_26 : decode cX12_bindingOf 26 = .ok (.goto 4, 3) := by decide +kernel
theorem dX12_bindingOf_29 : decode cX12_bindingOf 29 = .ok (.iload_n 2, 1) := by decide +kernel
theorem dX12_bindingOf_30 : decode cX12_bindingOf 30 = .ok (.istore_n 2, 1) := by decide +kernel
theorem dX12_bindingOf_31 : decode cX12_bindingOf 31 = .ok (.iinc 3 1, 3) := by decide +kernel
theorem dX12_bindingOf_34 : decode cX12_bindingOf 34 = .ok (.goto (-27), 3) := by decide +kernel
theorem dX12_bindingOf_37 : decode cX12_bindingOf 37 = .ok (.iload_n 2, 1) := by decide +kernel
theorem dX12_bindingOf_38 : decode cX12_bindingOf 38 = .ok (.ireturn, 1) := by decide +kernel
theorem dX12_bind_0 : decode cX12_bind 0 = .ok (.aload_n 0, 1) := by decide +kernel
theorem dX12_bind_1 : decode cX12_bind 1 = .ok (.getfield 143, 3) := by decide +kernel
theorem dX12_bind_4 : decode cX12_bind 4 = .ok (.aload_n 0, 1) := by decide +kernel
theorem dX12_bind_5 : decode cX12_bind 5 = .ok (.getfield 251, 3) := by decide +kernel
theorem dX12_bind_8 : decode cX12_bind 8 = .ok (.iload_n 1, 1) := by decide +kernel
theorem dX12_bind_9 : decode cX12_bind 9 = .ok (.iastore, 1) := by decide +kernel
theorem dX12_bind_10 : decode cX12_bind 10 = .ok (.aload_n 0, 1) := by decide +kernel
theorem dX12_bind_11 : decode cX12_bind 11 = .ok (.getfield 146, 3) := by decide +kernel
theorem dX12_bind_14 : decode cX12_bind 14 = .ok (.aload_n 0, 1) := by decide +kernel
theorem dX12_bind_15 : decode cX12_bind 15 = .ok (.getfield 251, 3) := by decide +kernel
theorem dX12_bind_18 : decode cX12_bind 18 = .ok (.iload_n 2, 1) := by decide +kernel
theorem dX12_bind_19 : decode cX12_bind 19 = .ok (.iastore, 1) := by decide +kernel
theorem dX12_bind_20 : decode cX12_bind 20 = .ok (.aload_n 0, 1) := by decide +kernel
theorem dX12_bind_21 : decode cX12_bind 21 = .ok (.dup, 1) := by decide +kernel
theorem dX12_bind_22 : decode cX12_bind 22 = .ok (.getfield 251, 3) := by decide +kernel
theorem dX12_bind_25 : decode cX12_bind 25 = .ok (.iconst 1, 1) := by decide +kernel
theorem dX12_bind_26 : decode cX12_bind 26 = .ok (.iadd, 1) := by decide +kernel
theorem dX12_bind_27 : decode cX12_bind 27 = .ok (.putfield 251, 3) := by decide +kernel
theorem dX12_bind_30 : decode cX12_bind 30 = .ok (.return_, 1) := by decide +kernel
theorem dX12_valueName_0 : decode cX12_valueName 0 = .ok (.aload_n 0, 1) := by decide +kernel
theorem dX12_valueName_1 : decode cX12_valueName 1 = .ok (.iload_n 1, 1) := by decide +kernel
theorem dX12_valueName_2 : decode cX12_valueName 2 = .ok (.invokevirtual 254, 3) := by decide +kernel
theorem dX12_valueName_5 : decode cX12_valueName 5 = .ok (.istore_n 2, 1) := by decide +kernel
theorem dX12_valueName_6 : decode cX12_valueName 6 = .ok (.iload_n 2, 1) := by decide +kernel
theorem dX12_valueName_7 : decode cX12_valueName 7 = .ok (.iconst (-1), 1) := by decide +kernel
theorem dX12_valueName_8 : decode cX12_valueName 8 = .ok (.if_icmp .eq 16, 3) := by decide +kernel
theorem dX12_valueName_11 : decode cX12_valueName 11 = .ok (.aload_n 0, 1) := by decide +kernel
theorem dX12_valueName_12 : decode cX12_valueName 12 = .ok (.aload_n 0, 1) := by decide +kernel
theorem dX12_valueName_13 : decode cX12_valueName 13 = .ok (.getfield 146, 3) := by decide +kernel
theorem dX12_valueName_16 : decode cX12_valueName 16 = .ok (.iload_n 2, 1) := by decide +kernel
theorem dX12_valueName_17 : decode cX12_valueName 17 = .ok (.iaload, 1) := by decide +kernel
theorem dX12_valueName_18 : decode cX12_valueName 18 = .ok (.putfield 232, 3) := by decide +kernel
theorem dX12_valueName_21 : decode cX12_valueName 21 = .ok (.goto 41, 3) := by decide +kernel
theorem dX12_valueName_24 : decode cX12_valueName 24 = .ok (.iload_n 1, 1) := by decide +kernel
theorem dX12_valueName_25 : decode cX12_valueName 25 = .ok (.iconst 1, 1) := by decide +kernel
theorem dX12_valueName_26 : decode cX12_valueName 26 = .ok (.bipush 8, 2) := by decide +kernel
theorem dX12_valueName_28 : decode cX12_valueName 28 = .ok (.invokestatic 167, 3) := by decide +kernel
theorem dX12_valueName_31 : decode cX12_valueName 31 = .ok (.ifCond .eq 26, 3) := by decide +kernel
theorem dX12_valueName_34 : decode cX12_valueName 34 = .ok (.aload_n 0, 1) := by decide +kernel
theorem dX12_valueName_35 : decode cX12_valueName 35 = .ok (.aload_n 0, 1) := by decide +kernel
theorem dX12_valueName_36 : decode cX12_valueName 36 = .ok (.getfield 16, 3) := by decide +kernel
theorem dX12_valueName_39 : decode cX12_valueName 39 = .ok (.bipush 8, 2) := by decide +kernel
theorem dX12_valueName_41 : decode cX12_valueName 41 = .ok (.aload_n 0, 1) := by decide +kernel
theorem dX12_valueName_42 : decode cX12_valueName 42 = .ok (.getfield 223, 3) := by decide +kernel
theorem dX12_valueName_45 : decode cX12_valueName 45 = .ok (.imul, 1) := by decide +kernel
theorem dX12_valueName_46 : decode cX12_valueName 46 = .ok (.iload_n 1, 1) := by decide +kernel
theorem dX12_valueName_47 : decode cX12_valueName 47 = .ok (.iadd, 1) := by decide +kernel
theorem dX12_valueName_48 : decode cX12_valueName 48 = .ok (.iconst 1, 1) := by decide +kernel
theorem dX12_valueName_49 : decode cX12_valueName 49 = .ok (.isub, 1) := by decide +kernel
theorem dX12_valueName_50 : decode cX12_valueName 50 = .ok (.iaload, 1) := by decide +kernel
theorem dX12_valueName_51 : decode cX12_valueName 51 = .ok (.putfield 232, 3) := by decide +kernel
theorem dX12_valueName_54 : decode cX12_valueName 54 = .ok (.goto 8, 3) := by decide +kernel
theorem dX12_valueName_57 : decode cX12_valueName 57 = .ok (.aload_n 0, 1) := by decide +kernel
theorem dX12_valueName_58 : decode cX12_valueName 58 = .ok (.iconst 3, 1) := by decide +kernel
theorem dX12_valueName_59 : decode cX12_valueName 59 = .ok (.putfield 257, 3) := by decide +kernel
theorem dX12_valueName_62 : decode cX12_valueName 62 = .ok (.return_, 1) := by decide +kernel
theorem dX12_enter_0 : decode cX12_enter 0 = .ok (.aload_n 0, 1) := by decide +kernel
theorem dX12_enter_1 : decode cX12_enter 1 = .ok (.aload_n 0, 1) := by decide +kernel
theorem dX12_enter_2 : decode cX12_enter 2 = .ok (.getfield 242, 3) := by decide +kernel
theorem dX12_enter_5 : decode cX12_enter 5 = .ok (.aload_n 0, 1) := by decide +kernel
theorem dX12_enter_6 : decode cX12_enter 6 = .ok (.getfield 245, 3) := by decide +kernel
theorem dX12_enter_9 : decode cX12_enter 9 = .ok (.invokevirtual 184, 3) := by decide +kernel
theorem dX12_enter_12 : decode cX12_enter 12 = .ok (.istore_n 1, 1) := by decide +kernel
theorem dX12_enter_13 : decode cX12_enter 13 = .ok (.aload_n 0, 1) := by decide +kernel
theorem dX12_enter_14 : decode cX12_enter 14 = .ok (.iconst 0, 1) := by decide +kernel
theorem dX12_enter_15 : decode cX12_enter 15 = .ok (.putfield 238, 3) := by decide +kernel
theorem dX12_enter_18 : decode cX12_enter 18 = .ok (.aload_n 0, 1) := by decide +kernel
theorem dX12_enter_19 : decode cX12_enter 19 = .ok (.invokevirtual 260, 3) := by decide +kernel
theorem dX12_enter_22 : decode cX12_enter 22 = .ok (.ifCond .ne 12, 3) := by decide +kernel
theorem dX12_enter_25 : decode cX12_enter 25 = .ok (.aload_n 0, 1) := by decide +kernel
theorem dX12_enter_26 : decode cX12_enter 26 = .ok (.bipush 7, 2) := by decide +kernel
theorem dX12_enter_28 : decode cX12_enter 28 = .ok (.putfield 257, 3) := by decide +kernel
theorem dX12_enter_31 : decode cX12_enter 31 = .ok (.goto 75, 3) := by decide +kernel
theorem dX12_enter_34 : decode cX12_enter 34 = .ok (.aload_n 0, 1) := by decide +kernel
theorem dX12_enter_35 : decode cX12_enter 35 = .ok (.getfield 235, 3) := by decide +kernel
theorem dX12_enter_38 : decode cX12_enter 38 = .ok (.bipush 30, 2) := by decide +kernel
theorem dX12_enter_40 : decode cX12_enter 40 = .ok (.if_icmp .lt 11, 3) := by decide +kernel
theorem dX12_enter_43 : decode cX12_enter 43 = .ok (.aload_n 0, 1) := by decide +kernel
theorem dX12_enter_44 : decode cX12_enter 44 = .ok (.iconst 2, 1) := by decide +kernel
theorem dX12_enter_45 : decode cX12_enter 45 = .ok (.putfield 257, 3) := by decide +kernel
theorem dX12_enter_48 : decode cX12_enter 48 = .ok (.goto 58, 3) := by decide +kernel
theorem dX12_enter_51 : decode cX12_enter 51 = .ok (.iload_n 1, 1) := by decide +kernel
theorem dX12_enter_52 : decode cX12_enter 52 = .ok (.bipush 40, 2) := by decide +kernel
theorem dX12_enter_54 : decode cX12_enter 54 = .ok (.if_icmp .ne 10, 3) := by decide +kernel
theorem dX12_enter_57 : decode cX12_enter 57 = .ok (.aload_n 0, 1) := by decide +kernel
theorem dX12_enter_58 : decode cX12_enter 58 = .ok (.invokevirtual 264, 3) := by decide +kernel
theorem dX12_enter_61 : decode cX12_enter 61 = .ok (.goto 45, 3) := by decide +kernel
theorem dX12_enter_64 : decode cX12_enter 64 = .ok (.iload_n 1, 1) := by decide +kernel
theorem dX12_enter_65 : decode cX12_enter 65 = .ok (.invokestatic 175, 3) := by decide +kernel
theorem dX12_enter_68 : decode cX12_enter 68 = .ok (.ifCond .eq 22, 3) := by decide +kernel
theorem dX12_enter_71 : decode cX12_enter 71 = .ok (.aload_n 0, 1) := by decide +kernel
theorem dX12_enter_72 : decode cX12_enter 72 = .ok (.aload_n 0, 1) := by decide +kernel
theorem dX12_enter_73 : decode cX12_enter 73 = .ok (.aload_n 0, 1) := by decide +kernel
theorem dX12_enter_74 : decode cX12_enter 74 = .ok (.getfield 242, 3) := by decide +kernel
theorem dX12_enter_77 : decode cX12_enter 77 = .ok (.aload_n 0, 1) := by decide +kernel
theorem dX12_enter_78 : decode cX12_enter 78 = .ok (.getfield 245, 3) := by decide +kernel
theorem dX12_enter_81 : decode cX12_enter 81 = .ok (.invokevirtual 211, 3) := by decide +kernel
theorem dX12_enter_84 : decode cX12_enter 84 = .ok (.invokevirtual 267, 3) := by decide +kernel
theorem dX12_enter_87 : decode cX12_enter 87 = .ok (.goto 19, 3) := by decide +kernel
theorem dX12_enter_90 : decode cX12_enter 90 = .ok (.aload_n 0, 1) := by decide +kernel
theorem dX12_enter_91 : decode cX12_enter 91 = .ok (.aload_n 0, 1) := by decide +kernel
theorem dX12_enter_92 : decode cX12_enter 92 = .ok (.aload_n 0, 1) := by decide +kernel
theorem dX12_enter_93 : decode cX12_enter 93 = .ok (.getfield 242, 3) := by decide +kernel
theorem dX12_enter_96 : decode cX12_enter 96 = .ok (.aload_n 0, 1) := by decide +kernel
theorem dX12_enter_97 : decode cX12_enter 97 = .ok (.getfield 245, 3) := by decide +kernel
theorem dX12_enter_100 : decode cX12_enter 100 = .ok (.invokevirtual 271, 3) := by decide +kernel
theorem dX12_enter_103 : decode cX12_enter 103 = .ok (.putfield 232, 3) := by decide +kernel
theorem dX12_enter_106 : decode cX12_enter 106 = .ok (.return_, 1) := by decide +kernel
theorem dX12_isParts_0 : decode cX12_isParts 0 = .ok (.aload_n 0, 1) := by decide +kernel
theorem dX12_isParts_1 : decode cX12_isParts 1 = .ok (.iload_n 1, 1) := by decide +kernel
theorem dX12_isParts_2 : decode cX12_isParts 2 = .ok (.iload_n 2, 1) := by decide +kernel
theorem dX12_isParts_3 : decode cX12_isParts 3 = .ok (.invokevirtual 184, 3) := by decide +kernel
theorem dX12_isParts_6 : decode cX12_isParts 6 = .ok (.bipush 40, 2) := by decide +kernel
theorem dX12_isParts_8 : decode cX12_isParts 8 = .ok (.if_icmp .ne 7, 3) := by decide +kernel
theorem dX12_isParts_11 : decode cX12_isParts 11 = .ok (.iconst 1, 1) := by decide +kernel
theorem dX12_isParts_12 : decode cX12_isParts 12 = .ok (.goto 4, 3) := by decide +kernel
theorem dX12_isParts_15 : decode cX12_isParts 15 = .ok (.iconst 0, 1) := by decide +kernel
theorem dX12_isParts_16 : decode cX12_isParts 16 = .ok (.istore_n 3, 1) := by decide +kernel
theorem dX12_isParts_17 : decode cX12_isParts 17 = .ok (.iconst 0, 1) := by decide +kernel
theorem dX12_isParts_18 : decode cX12_isParts 18 = .ok (.istore 4, 2) := by decide +kernel
theorem dX12_isParts_20 : decode cX12_isParts 20 = .ok (.iload_n 3, 1) := by decide +kernel
theorem dX12_isParts_21 : decode cX12_isParts 21 = .ok (.ifCond .eq 14, 3) := by decide +kernel
theorem dX12_isParts_24 : decode cX12_isParts 24 = .ok (.aload_n 0, 1) := by decide +kernel
theorem dX12_isParts_25 : decode cX12_isParts 25 = .ok (.iload_n 1, 1) := by decide +kernel
theorem dX12_isParts_26 : decode cX12_isParts 26 = .ok (.iload_n 2, 1) := by decide +kernel
theorem dX12_isParts_27 : decode cX12_isParts 27 = .ok (.iconst 1, 1) := by decide +kernel
theorem dX12_isParts_28 : decode cX12_isParts 28 = .ok (.iadd, 1) := by decide +kernel
theorem dX12_isParts_29 : decode cX12_isParts 29 = .ok (.invokevirtual 198, 3) := by decide +kernel
theorem dX12_isParts_32 : decode cX12_isParts 32 = .ok (.goto 4, 3) := by decide +kernel
theorem dX12_isParts_35 : decode cX12_isParts 35 = .ok (.iconst (-1), 1) := by decide +kernel
theorem dX12_isParts_36 : decode cX12_isParts 36 = .ok (.istore 5, 2) := by decide +kernel
theorem dX12_isParts_38 : decode cX12_isParts 38 = .ok (.iload 5, 2) := by decide +kernel
theorem dX12_isParts_40 : decode cX12_isParts 40 = .ok (.iconst (-1), 1) := by decide +kernel
theorem dX12_isParts_41 : decode cX12_isParts 41 = .ok (.if_icmp .eq 100, 3) := by decide +kernel
theorem dX12_isParts_44 : decode cX12_isParts 44 = .ok (.iload_n 3, 1) := by decide +kernel
theorem dX12_isParts_45 : decode cX12_isParts 45 = .ok (.ifCond .eq 96, 3) := by decide +kernel
theorem dX12_isParts_48 : decode cX12_isParts 48 = .ok (.aload_n 0, 1) := by decide +kernel
theorem dX12_isParts_49 : decode cX12_isParts 49 = .ok (.iload_n 1, 1) := by decide +kernel
theorem dX12_isParts_50 : decode cX12_isParts 50 = .ok (.iload 5, 2) := by decide +kernel
theorem dX12_isParts_52 : decode cX12_isParts 52 = .ok (.invokevirtual 207, 3) := by decide +kernel
theorem dX12_isParts_55 : decode cX12_isParts 55 = .ok (.ifCond .eq 13, 3) := by decide +kernel
theorem dX12_isParts_58 : decode cX12_isParts 58 = .ok (.iload 4, 2) := by decide +kernel
theorem dX12_isParts_60 : decode cX12_isParts 60 = .ok (.iconst 3, 1) := by decide +kernel
theorem dX12_isParts_61 : decode cX12_isParts 61 = .ok (.if_icmp .ge 7, 3) := by decide +kernel
theorem dX12_isParts_64 : decode cX12_isParts 64 = .ok (.iconst 1, 1) := by decide +kernel
theorem dX12_isParts_65 : decode cX12_isParts 65 = .ok (.goto 4, 3) := by decide +kernel
theorem dX12_isParts_68 : decode cX12_isParts 68 = .ok (.iconst 0, 1) := by decide +kernel
theorem dX12_isParts_69 : decode cX12_isParts 69 = .ok (.istore_n 3, 1) := by decide +kernel
theorem dX12_isParts_70 : decode cX12_isParts 70 = .ok (.aload_n 0, 1) := by decide +kernel
theorem dX12_isParts_71 : decode cX12_isParts 71 = .ok (.iload_n 1, 1) := by decide +kernel
theorem dX12_isParts_72 : decode cX12_isParts 72 = .ok (.iload_n 2, 1) := by decide +kernel
theorem dX12_isParts_73 : decode cX12_isParts 73 = .ok (.iconst 1, 1) := by decide +kernel
theorem dX12_isParts_74 : decode cX12_isParts 74 = .ok (.iadd, 1) := by decide +kernel
theorem dX12_isParts_75 : decode cX12_isParts 75 = .ok (.invokevirtual 198, 3) := by decide +kernel
theorem dX12_isParts_78 : decode cX12_isParts 78 = .ok (.istore 6, 2) := by decide +kernel
theorem dX12_isParts_80 : decode cX12_isParts 80 = .ok (.iload 6, 2) := by decide +kernel
theorem dX12_isParts_82 : decode cX12_isParts 82 = .ok (.iload 5, 2) := by decide +kernel
theorem dX12_isParts_84 : decode cX12_isParts 84 = .ok (.if_icmp .eq 42, 3) := by decide +kernel
theorem dX12_isParts_87 : decode cX12_isParts 87 = .ok (.iload_n 3, 1) := by decide +kernel
theorem dX12_isParts_88 : decode cX12_isParts 88 = .ok (.ifCond .eq 38, 3) := by decide +kernel
theorem dX12_isParts_91 : decode cX12_isParts 91 = .ok (.aload_n 0, 1) := by decide +kernel
theorem dX12_isParts_92 : decode cX12_isParts 92 = .ok (.iload_n 1, 1) := by decide +kernel
theorem dX12_isParts_93 : decode cX12_isParts 93 = .ok (.iload 6, 2) := by decide +kernel
theorem dX12_isParts_95 : decode cX12_isParts 95 = .ok (.invokevirtual 211, 3) := by decide +kernel
theorem dX12_isParts_98 : decode cX12_isParts 98 = .ok (.aload_n 0, 1) := by decide +kernel
theorem dX12_isParts_99 : decode cX12_isParts 99 = .ok (.iload_n 1, 1) := by decide +kernel
theorem dX12_isParts_100 : decode cX12_isParts 100 = .ok (.iload 5, 2) := by decide +kernel
theorem dX12_isParts_102 : decode cX12_isParts 102 = .ok (.invokevirtual 211, 3) := by decide +kernel
theorem dX12_isParts_105 : decode cX12_isParts 105 = .ok (.if_icmp .eq 7, 3) := by decide +kernel
theorem dX12_isParts_108 : decode cX12_isParts 108 = .ok (.iconst 1, 1) := by decide +kernel
theorem dX12_isParts_109 : decode cX12_isParts 109 = .ok (.goto 4, 3) := by decide +kernel
theorem dX12_isParts_112 : decode cX12_isParts 112 = .ok (.iconst 0, 1) := by decide +kernel
theorem dX12_isParts_113 : decode cX12_isParts 113 = .ok (.istore_n 3, 1) := by decide +kernel
theorem dX12_isParts_114 : decode cX12_isParts 114 = .ok (.aload_n 0, 1) := by decide +kernel
theorem dX12_isParts_115 : decode cX12_isParts 115 = .ok (.iload_n 1, 1) := by decide +kernel
theorem dX12_isParts_116 : decode cX12_isParts 116 = .ok (.iload 6, 2) := by decide +kernel
theorem dX12_isParts_118 : decode cX12_isParts 118 = .ok (.invokevirtual 201, 3) := by decide +kernel
theorem dX12_isParts_121 : decode cX12_isParts 121 = .ok (.istore 6, 2) := by decide +kernel
theorem dX12_isParts_123 : decode cX12_isParts 123 = .ok (.goto (-43), 3) := by decide +kernel
theorem dX12_isParts_126 : decode cX12_isParts 126 = .ok (.iinc 4 1, 3) := by decide +kernel
theorem dX12_isParts_129 : decode cX12_isParts 129 = .ok (.aload_n 0, 1) := by decide +kernel
theorem dX12_isParts_130 : decode cX12_isParts 130 = .ok (.iload_n 1, 1) := by decide +kernel
theorem dX12_isParts_131 : decode cX12_isParts 131 = .ok (.iload 5, 2) := by decide +kernel
theorem dX12_isParts_133 : decode cX12_isParts 133 = .ok (.invokevirtual 201, 3) := by decide +kernel
theorem dX12_isParts_136 : decode cX12_isParts 136 = .ok (.istore 5, 2) := by decide +kernel
theorem dX12_isParts_138 : decode cX12_isParts 138 = .ok (.goto (-100), 3) := by decide +kernel
theorem dX12_isParts_141 : decode cX12_isParts 141 = .ok (.iload_n 3, 1) := by decide +kernel
theorem dX12_isParts_142 : decode cX12_isParts 142 = .ok (.ireturn, 1) := by decide +kernel
theorem dX12_isFormed_0 : decode cX12_isFormed 0 = .ok (.aload_n 0, 1) := by decide +kernel
theorem dX12_isFormed_1 : decode cX12_isFormed 1 = .ok (.aload_n 0, 1) := by decide +kernel
theorem dX12_isFormed_2 : decode cX12_isFormed 2 = .ok (.getfield 242, 3) := by decide +kernel
theorem dX12_isFormed_5 : decode cX12_isFormed 5 = .ok (.iload_n 3, 1) := by decide +kernel
theorem dX12_isFormed_6 : decode cX12_isFormed 6 = .ok (.invokevirtual 204, 3) := by decide +kernel
theorem dX12_isFormed_9 : decode cX12_isFormed 9 = .ok (.istore 4, 2) := by decide +kernel
theorem dX12_isFormed_11 : decode cX12_isFormed 11 = .ok (.iload_n 1, 1) := by decide +kernel
theorem dX12_isFormed_12 : decode cX12_isFormed 12 = .ok (.bipush 26, 2) := by decide +kernel
theorem dX12_isFormed_14 : decode cX12_isFormed 14 = .ok (.if_icmp .ne 20, 3) := by decide +kernel
theorem dX12_isFormed_17 : decode cX12_isFormed 17 = .ok (.iload 4, 2) := by decide +kernel
theorem dX12_isFormed_19 : decode cX12_isFormed 19 = .ok (.aload_n 0, 1) := by decide +kernel
theorem dX12_isFormed_20 : decode cX12_isFormed 20 = .ok (.getfield 152, 3) := by decide +kernel
theorem dX12_isFormed_23 : decode cX12_isFormed 23 = .ok (.iload_n 2, 1) := by decide +kernel
theorem dX12_isFormed_24 : decode cX12_isFormed 24 = .ok (.iaload, 1) := by decide +kernel
theorem dX12_isFormed_25 : decode cX12_isFormed 25 = .ok (.if_icmp .ne 7, 3) := by decide +kernel
theorem dX12_isFormed_28 : decode cX12_isFormed 28 = .ok (.iconst 1, 1) := by decide +kernel
theorem dX12_isFormed_29 : decode cX12_isFormed 29 = .ok (.goto 4, 3) := by decide +kernel
theorem dX12_isFormed_32 : decode cX12_isFormed 32 = .ok (.iconst 0, 1) := by decide +kernel
theorem dX12_isFormed_33 : decode cX12_isFormed 33 = .ok (.ireturn, 1) := by decide +kernel
theorem dX12_isFormed_34 : decode cX12_isFormed 34 = .ok (.iload 4, 2) := by decide +kernel
theorem dX12_isFormed_36 : decode cX12_isFormed 36 = .ok (.aload_n 0, 1) := by decide +kernel
theorem dX12_isFormed_37 : decode cX12_isFormed 37 = .ok (.getfield 92, 3) := by decide +kernel
theorem dX12_isFormed_40 : decode cX12_isFormed 40 = .ok (.iload_n 1, 1) := by decide +kernel
theorem dX12_isFormed_41 : decode cX12_isFormed 41 = .ok (.iaload, 1) := by decide +kernel
theorem dX12_isFormed_42 : decode cX12_isFormed 42 = .ok (.if_icmp .lt 14, 3) := by decide +kernel
theorem dX12_isFormed_45 : decode cX12_isFormed 45 = .ok (.iload 4, 2) := by decide +kernel
theorem dX12_isFormed_47 : decode cX12_isFormed 47 = .ok (.aload_n 0, 1) := by decide +kernel
theorem dX12_isFormed_48 : decode cX12_isFormed 48 = .ok (.getfield 95, 3) := by decide +kernel
theorem dX12_isFormed_51 : decode cX12_isFormed 51 = .ok (.iload_n 1, 1) := by decide +kernel
theorem dX12_isFormed_52 : decode cX12_isFormed 52 = .ok (.iaload, 1) := by decide +kernel
theorem dX12_isFormed_53 : decode cX12_isFormed 53 = .ok (.if_icmp .le 5, 3) := by decide +kernel
theorem dX12_isFormed_56 : decode cX12_isFormed 56 = .ok (.iconst 0, 1) := by decide +kernel
theorem dX12_isFormed_57 : decode cX12_isFormed 57 = .ok (.ireturn, 1) := by decide +kernel
theorem dX12_isFormed_58 : decode cX12_isFormed 58 = .ok (.iload_n 1, 1) := by decide +kernel
theorem dX12_isFormed_59 : decode cX12_isFormed 59 = .ok (.bipush 15, 2) := by decide +kernel
theorem dX12_isFormed_61 : decode cX12_isFormed 61 = .ok (.if_icmp .eq 9, 3) := by decide +kernel
theorem dX12_isFormed_64 : decode cX12_isFormed 64 = .ok (.iload_n 1, 1) := by decide +kernel
theorem dX12_isFormed_65 : decode cX12_isFormed 65 = .ok (.bipush 16, 2) := by decide +kernel
theorem dX12_isFormed_67 : decode cX12_isFormed 67 = .ok (.if_icmp .ne 13, 3) := by decide +kernel
theorem dX12_isFormed_70 : decode cX12_isFormed 70 = .ok (.aload_n 0, 1) := by decide +kernel
theorem dX12_isFormed_71 : decode cX12_isFormed 71 = .ok (.aload_n 0, 1) := by decide +kernel
theorem dX12_isFormed_72 : decode cX12_isFormed 72 = .ok (.getfield 242, 3) := by decide +kernel
theorem dX12_isFormed_75 : decode cX12_isFormed 75 = .ok (.iload_n 3, 1) := by decide +kernel
theorem dX12_isFormed_76 : decode cX12_isFormed 76 = .ok (.invokevirtual 207, 3) := by decide +kernel
theorem dX12_isFormed_79 : decode cX12_isFormed 79 = .ok (.ireturn, 1) := by decide +kernel
theorem dX12_isFormed_80 : decode cX12_isFormed 80 = .ok (.iload_n 1, 1) := by decide +kernel
theorem dX12_isFormed_81 : decode cX12_isFormed 81 = .ok (.bipush 18, 2) := by decide +kernel
theorem dX12_isFormed_83 : decode cX12_isFormed 83 = .ok (.if_icmp .eq 9, 3) := by decide +kernel
theorem dX12_isFormed_86 : decode cX12_isFormed 86 = .ok (.iload_n 1, 1) := by decide +kernel
theorem dX12_isFormed_87 : decode cX12_isFormed 87 = .ok (.bipush 19, 2) := by decide +kernel
theorem dX12_isFormed_89 : decode cX12_isFormed 89 = .ok (.if_icmp .ne 22, 3) := by decide +kernel
theorem dX12_isFormed_92 : decode cX12_isFormed 92 = .ok (.aload_n 0, 1) := by decide +kernel
theorem dX12_isFormed_93 : decode cX12_isFormed 93 = .ok (.aload_n 0, 1) := by decide +kernel
theorem dX12_isFormed_94 : decode cX12_isFormed 94 = .ok (.getfield 242, 3) := by decide +kernel
theorem dX12_isFormed_97 : decode cX12_isFormed 97 = .ok (.iload_n 3, 1) := by decide +kernel
theorem dX12_isFormed_98 : decode cX12_isFormed 98 = .ok (.invokevirtual 274, 3) := by decide +kernel
theorem dX12_isFormed_101 : decode cX12_isFormed 101 = .ok (.iconst (-1), 1) := by decide +kernel
theorem dX12_isFormed_102 : decode cX12_isFormed 102 = .ok (.if_icmp .eq 7, 3) := by decide +kernel
theorem dX12_isFormed_105 : decode cX12_isFormed 105 = .ok (.iconst 1, 1) := by decide +kernel
theorem dX12_isFormed_106 : decode cX12_isFormed 106 = .ok (.goto 4, 3) := by decide +kernel
theorem dX12_isFormed_109 : decode cX12_isFormed 109 = .ok (.iconst 0, 1) := by decide +kernel
theorem dX12_isFormed_110 : decode cX12_isFormed 110 = .ok (.ireturn, 1) := by decide +kernel
theorem dX12_isFormed_111 : decode cX12_isFormed 111 = .ok (.iload_n 1, 1) := by decide +kernel
theorem dX12_isFormed_112 : decode cX12_isFormed 112 = .ok (.bipush 20, 2) := by decide +kernel
theorem dX12_isFormed_114 : decode cX12_isFormed 114 = .ok (.if_icmp .ne 30, 3) := by decide +kernel
theorem dX12_isFormed_117 : decode cX12_isFormed 117 = .ok (.aload_n 0, 1) := by decide +kernel
theorem dX12_isFormed_118 : decode cX12_isFormed 118 = .ok (.aload_n 0, 1) := by decide +kernel
theorem dX12_isFormed_119 : decode cX12_isFormed 119 = .ok (.getfield 242, 3) := by decide +kernel
theorem dX12_isFormed_122 : decode cX12_isFormed 122 = .ok (.aload_n 0, 1) := by decide +kernel
theorem dX12_isFormed_123 : decode cX12_isFormed 123 = .ok (.aload_n 0, 1) := by decide +kernel
theorem dX12_isFormed_124 : decode cX12_isFormed 124 = .ok (.getfield 242, 3) := by decide +kernel
theorem dX12_isFormed_127 : decode cX12_isFormed 127 = .ok (.iload_n 3, 1) := by decide +kernel
theorem dX12_isFormed_128 : decode cX12_isFormed 128 = .ok (.invokevirtual 201, 3) := by decide +kernel
theorem dX12_isFormed_131 : decode cX12_isFormed 131 = .ok (.invokevirtual 274, 3) := by decide +kernel
theorem dX12_isFormed_134 : decode cX12_isFormed 134 = .ok (.iconst (-1), 1) := by decide +kernel
theorem dX12_isFormed_135 : decode cX12_isFormed 135 = .ok (.if_icmp .eq 7, 3) := by decide +kernel
theorem dX12_isFormed_138 : decode cX12_isFormed 138 = .ok (.iconst 1, 1) := by decide +kernel
theorem dX12_isFormed_139 : decode cX12_isFormed 139 = .ok (.goto 4, 3) := by decide +kernel
theorem dX12_isFormed_142 : decode cX12_isFormed 142 = .ok (.iconst 0, 1) := by decide +kernel
theorem dX12_isFormed_143 : decode cX12_isFormed 143 = .ok (.ireturn, 1) := by decide +kernel
theorem dX12_isFormed_144 : decode cX12_isFormed 144 = .ok (.iload_n 1, 1) := by decide +kernel
theorem dX12_isFormed_145 : decode cX12_isFormed 145 = .ok (.bipush 17, 2) := by decide +kernel
theorem dX12_isFormed_147 : decode cX12_isFormed 147 = .ok (.if_icmp .ne 83, 3) := by decide +kernel
theorem dX12_isFormed_150 : decode cX12_isFormed 150 = .ok (.aload_n 0, 1) := by decide +kernel
theorem dX12_isFormed_151 : decode cX12_isFormed 151 = .ok (.aload_n 0, 1) := by decide +kernel
theorem dX12_isFormed_152 : decode cX12_isFormed 152 = .ok (.getfield 242, 3) := by decide +kernel
theorem dX12_isFormed_155 : decode cX12_isFormed 155 = .ok (.iload_n 3, 1) := by decide +kernel
theorem dX12_isFormed_156 : decode cX12_isFormed 156 = .ok (.invokevirtual 207, 3) := by decide +kernel
theorem dX12_isFormed_159 : decode cX12_isFormed 159 = .ok (.ifCond .eq 37, 3) := by decide +kernel
theorem dX12_isFormed_162 : decode cX12_isFormed 162 = .ok (.aload_n 0, 1) := by decide +kernel
theorem dX12_isFormed_163 : decode cX12_isFormed 163 = .ok (.aload_n 0, 1) := by decide +kernel
theorem dX12_isFormed_164 : decode cX12_isFormed 164 = .ok (.aload_n 0, 1) := by decide +kernel
theorem dX12_isFormed_165 : decode cX12_isFormed 165 = .ok (.getfield 242, 3) := by decide +kernel
theorem dX12_isFormed_168 : decode cX12_isFormed 168 = .ok (.iload_n 3, 1) := by decide +kernel
theorem dX12_isFormed_169 : decode cX12_isFormed 169 = .ok (.invokevirtual 211, 3) := by decide +kernel
theorem dX12_isFormed_172 : decode cX12_isFormed 172 = .ok (.invokevirtual 277, 3) := by decide +kernel
theorem dX12_isFormed_175 : decode cX12_isFormed 175 = .ok (.iconst (-1), 1) := by decide +kernel
theorem dX12_isFormed_176 : decode cX12_isFormed 176 = .ok (.if_icmp .ne 20, 3) := by decide +kernel
theorem dX12_isFormed_179 : decode cX12_isFormed 179 = .ok (.aload_n 0, 1) := by decide +kernel
theorem dX12_isFormed_180 : decode cX12_isFormed 180 = .ok (.aload_n 0, 1) := by decide +kernel
theorem dX12_isFormed_181 : decode cX12_isFormed 181 = .ok (.getfield 242, 3) := by decide +kernel
theorem dX12_isFormed_184 : decode cX12_isFormed 184 = .ok (.iload_n 3, 1) := by decide +kernel
theorem dX12_isFormed_185 : decode cX12_isFormed 185 = .ok (.invokevirtual 274, 3) := by decide +kernel
theorem dX12_isFormed_188 : decode cX12_isFormed 188 = .ok (.iconst (-1), 1) := by decide +kernel
theorem dX12_isFormed_189 : decode cX12_isFormed 189 = .ok (.if_icmp .ne 7, 3) := by decide +kernel
theorem dX12_isFormed_192 : decode cX12_isFormed 192 = .ok (.iconst 1, 1) := by decide +kernel
theorem dX12_isFormed_193 : decode cX12_isFormed 193 = .ok (.goto 4, 3) := by decide +kernel
theorem dX12_isFormed_196 : decode cX12_isFormed 196 = .ok (.iconst 0, 1) := by decide +kernel
theorem dX12_isFormed_197 : decode cX12_isFormed 197 = .ok (.istore 5, 2) := by decide +kernel
theorem dX12_isFormed_199 : decode cX12_isFormed 199 = .ok (.iload 5, 2) := by decide +kernel
theorem dX12_isFormed_201 : decode cX12_isFormed 201 = .ok (.ifCond .eq 27, 3) := by decide +kernel
theorem dX12_isFormed_204 : decode cX12_isFormed 204 = .ok (.aload_n 0, 1) := by decide +kernel
theorem dX12_isFormed_205 : decode cX12_isFormed 205 = .ok (.aload_n 0, 1) := by decide +kernel
theorem dX12_isFormed_206 : decode cX12_isFormed 206 = .ok (.getfield 242, 3) := by decide +kernel
theorem dX12_isFormed_209 : decode cX12_isFormed 209 = .ok (.aload_n 0, 1) := by decide +kernel
theorem dX12_isFormed_210 : decode cX12_isFormed 210 = .ok (.aload_n 0, 1) := by decide +kernel
theorem dX12_isFormed_211 : decode cX12_isFormed 211 = .ok (.getfield 242, 3) := by decide +kernel
theorem dX12_isFormed_214 : decode cX12_isFormed 214 = .ok (.iload_n 3, 1) := by decide +kernel
theorem dX12_isFormed_215 : decode cX12_isFormed 215 = .ok (.invokevirtual 201, 3) := by decide +kernel
theorem dX12_isFormed_218 : decode cX12_isFormed 218 = .ok (.invokevirtual 280, 3) := by decide +kernel
theorem dX12_isFormed_221 : decode cX12_isFormed 221 = .ok (.ifCond .eq 7, 3) := by decide +kernel
theorem dX12_isFormed_224 : decode cX12_isFormed 224 = .ok (.iconst 1, 1) := by decide +kernel
theorem dX12_isFormed_225 : decode cX12_isFormed 225 = .ok (.goto 4, 3) := by decide +kernel
theorem dX12_isFormed_228 : decode cX12_isFormed 228 = .ok (.iconst 0, 1) := by decide +kernel
theorem dX12_isFormed_229 : decode cX12_isFormed 229 = .ok (.ireturn, 1) := by decide +kernel
theorem dX12_isFormed_230 : decode cX12_isFormed 230 = .ok (.iconst 1, 1) := by decide +kernel
theorem dX12_isFormed_231 : decode cX12_isFormed 231 = .ok (.ireturn, 1) := by decide +kernel
theorem dX12_open_0 : decode cX12_open 0 = .ok (.aload_n 0, 1) := by decide +kernel
theorem dX12_open_1 : decode cX12_open 1 = .ok (.aload_n 0, 1) := by decide +kernel
theorem dX12_open_2 : decode cX12_open 2 = .ok (.getfield 242, 3) := by decide +kernel
theorem dX12_open_5 : decode cX12_open 5 = .ok (.aload_n 0, 1) := by decide +kernel
theorem dX12_open_6 : decode cX12_open 6 = .ok (.getfield 245, 3) := by decide +kernel
theorem dX12_open_9 : decode cX12_open 9 = .ok (.iconst 1, 1) := by decide +kernel
theorem dX12_open_10 : decode cX12_open 10 = .ok (.iadd, 1) := by decide +kernel
theorem dX12_open_11 : decode cX12_open 11 = .ok (.invokevirtual 198, 3) := by decide +kernel
theorem dX12_open_14 : decode cX12_open 14 = .ok (.istore_n 1, 1) := by decide +kernel
theorem dX12_open_15 : decode cX12_open 15 = .ok (.aload_n 0, 1) := by decide +kernel
theorem dX12_open_16 : decode cX12_open 16 = .ok (.aload_n 0, 1) := by decide +kernel
theorem dX12_open_17 : decode cX12_open 17 = .ok (.getfield 242, 3) := by decide +kernel
theorem dX12_open_20 : decode cX12_open 20 = .ok (.iload_n 1, 1) := by decide +kernel
theorem dX12_open_21 : decode cX12_open 21 = .ok (.invokevirtual 207, 3) := by decide +kernel
theorem dX12_open_24 : decode cX12_open 24 = .ok (.ifCond .ne 9, 3) := by decide +kernel
theorem dX12_open_27 : decode cX12_open 27 = .ok (.aload_n 0, 1) := by decide +kernel
theorem dX12_open_28 : decode cX12_open 28 = .ok (.iconst 4, 1) := by decide +kernel
theorem dX12_open_29 : decode cX12_open 29 = .ok (.putfield 257, 3) := by decide +kernel
theorem dX12_open_32 : decode cX12_open 32 = .ok (.return_, 1) := by decide +kernel
theorem dX12_open_33 : decode cX12_open 33 = .ok (.aload_n 0, 1) := by decide +kernel
theorem dX12_open_34 : decode cX12_open 34 = .ok (.aload_n 0, 1) := by decide +kernel
theorem dX12_open_35 : decode cX12_open 35 = .ok (.aload_n 0, 1) := by decide +kernel
theorem dX12_open_36 : decode cX12_open 36 = .ok (.getfield 242, 3) := by decide +kernel
theorem dX12_open_39 : decode cX12_open 39 = .ok (.iload_n 1, 1) := by decide +kernel
theorem dX12_open_40 : decode cX12_open 40 = .ok (.invokevirtual 211, 3) := by decide +kernel
theorem dX12_open_43 : decode cX12_open 43 = .ok (.invokevirtual 277, 3) := by decide +kernel
theorem dX12_open_46 : decode cX12_open 46 = .ok (.istore_n 2, 1) := by decide +kernel
theorem dX12_open_47 : decode cX12_open 47 = .ok (.iload_n 2, 1) := by decide +kernel
theorem dX12_open_48 : decode cX12_open 48 = .ok (.iconst (-1), 1) := by decide +kernel
theorem dX12_open_49 : decode cX12_open 49 = .ok (.if_icmp .ne 19, 3) := by decide +kernel
theorem dX12_open_52 : decode cX12_open 52 = .ok (.aload_n 0, 1) := by decide +kernel
theorem dX12_open_53 : decode cX12_open 53 = .ok (.aload_n 0, 1) := by decide +kernel
theorem dX12_open_54 : decode cX12_open 54 = .ok (.aload_n 0, 1) := by decide +kernel
theorem dX12_open_55 : decode cX12_open 55 = .ok (.getfield 242, 3) := by decide +kernel
theorem dX12_open_58 : decode cX12_open 58 = .ok (.iload_n 1, 1) := by decide +kernel
theorem dX12_open_59 : decode cX12_open 59 = .ok (.invokevirtual 211, 3) := by decide +kernel
theorem dX12_open_62 : decode cX12_open 62 = .ok (.invokevirtual 283, 3) := by decide +kernel
theorem dX12_open_65 : decode cX12_open 65 = .ok (.goto 4, 3) := by decide +kernel
theorem dX12_open_68 : decode cX12_open 68 = .ok (.iconst (-1), 1) := by decide +kernel
theorem dX12_open_69 : decode cX12_open 69 = .ok (.istore_n 3, 1) := by decide +kernel
theorem dX12_open_70 : decode cX12_open 70 = .ok (.iload_n 3, 1) := by decide +kernel
theorem dX12_open_71 : decode cX12_open 71 = .ok (.iconst (-1), 1) := by decide +kernel
theorem dX12_open_72 : decode cX12_open 72 = .ok (.if_icmp .ne 7, 3) := by decide +kernel
theorem dX12_open_75 : decode cX12_open 75 = .ok (.iload_n 2, 1) := by decide +kernel
theorem dX12_open_76 : decode cX12_open 76 = .ok (.goto 5, 3) := by decide +kernel
theorem dX12_open_79 : decode cX12_open 79 = .ok (.bipush 26, 2) := by decide +kernel
theorem dX12_open_81 : decode cX12_open 81 = .ok (.istore_n 2, 1) := by decide +kernel
theorem dX12_open_82 : decode cX12_open 82 = .ok (.aload_n 0, 1) := by decide +kernel
theorem dX12_open_83 : decode cX12_open 83 = .ok (.aload_n 0, 1) := by decide +kernel
theorem dX12_open_84 : decode cX12_open 84 = .ok (.getfield 242, 3) := by decide +kernel
theorem dX12_open_87 : decode cX12_open 87 = .ok (.iload_n 1, 1) := by decide +kernel
theorem dX12_open_88 : decode cX12_open 88 = .ok (.invokevirtual 201, 3) := by decide +kernel
theorem dX12_open_91 : decode cX12_open 91 = .ok (.istore 4, 2) := by decide +kernel
theorem dX12_open_93 : decode cX12_open 93 = .ok (.iload_n 2, 1) := by decide +kernel
theorem dX12_open_94 : decode cX12_open 94 = .ok (.iconst (-1), 1) := by decide +kernel
theorem dX12_open_95 : decode cX12_open 95 = .ok (.if_icmp .ne 11, 3) := by decide +kernel
theorem dX12_open_98 : decode cX12_open 98 = .ok (.aload_n 0, 1) := by decide +kernel
theorem dX12_open_99 : decode cX12_open 99 = .ok (.iconst 3, 1) := by decide +kernel
theorem dX12_open_100 : decode cX12_open 100 = .ok (.putfield 257, 3) := by decide +kernel
theorem dX12_open_103 : decode cX12_open 103 = .ok (.goto 121, 3) := by decide +kernel
theorem dX12_open_106 : decode cX12_open 106 = .ok (.aload_n 0, 1) := by decide +kernel
theorem dX12_open_107 : decode cX12_open 107 = .ok (.iload_n 2, 1) := by decide +kernel
theorem dX12_open_108 : decode cX12_open 108 = .ok (.iload_n 3, 1) := by decide +kernel
theorem dX12_open_109 : decode cX12_open 109 = .ok (.iload 4, 2) := by decide +kernel
theorem dX12_open_111 : decode cX12_open 111 = .ok (.invokevirtual 286, 3) := by decide +kernel
theorem dX12_open_114 : decode cX12_open 114 = .ok (.ifCond .ne 11, 3) := by decide +kernel
theorem dX12_open_117 : decode cX12_open 117 = .ok (.aload_n 0, 1) := by decide +kernel
theorem dX12_open_118 : decode cX12_open 118 = .ok (.iconst 4, 1) := by decide +kernel
theorem dX12_open_119 : decode cX12_open 119 = .ok (.putfield 257, 3) := by decide +kernel
theorem dX12_open_122 : decode cX12_open 122 = .ok (.goto 102, 3) := by decide +kernel
theorem dX12_open_125 : decode cX12_open 125 = .ok (.aload_n 0, 1) := by decide +kernel
theorem dX12_open_126 : decode cX12_open 126 = .ok (.getfield 98, 3) := by decide +kernel
theorem dX12_open_129 : decode cX12_open 129 = .ok (.aload_n 0, 1) := by decide +kernel
theorem dX12_open_130 : decode cX12_open 130 = .ok (.getfield 235, 3) := by decide +kernel
theorem dX12_open_133 : decode cX12_open 133 = .ok (.aload_n 0, 1) := by decide +kernel
theorem dX12_open_134 : decode cX12_open 134 = .ok (.getfield 242, 3) := by decide +kernel
theorem dX12_open_137 : decode cX12_open 137 = .ok (.iastore, 1) := by decide +kernel
theorem dX12_open_138 : decode cX12_open 138 = .ok (.aload_n 0, 1) := by decide +kernel
theorem dX12_open_139 : decode cX12_open 139 = .ok (.getfield 101, 3) := by decide +kernel
theorem dX12_open_142 : decode cX12_open 142 = .ok (.aload_n 0, 1) := by decide +kernel
theorem dX12_open_143 : decode cX12_open 143 = .ok (.getfield 235, 3) := by decide +kernel
theorem dX12_open_146 : decode cX12_open 146 = .ok (.iload_n 2, 1) := by decide +kernel
theorem dX12_open_147 : decode cX12_open 147 = .ok (.iastore, 1) := by decide +kernel
theorem dX12_open_148 : decode cX12_open 148 = .ok (.aload_n 0, 1) := by decide +kernel
theorem dX12_open_149 : decode cX12_open 149 = .ok (.getfield 104, 3) := by decide +kernel
theorem dX12_open_152 : decode cX12_open 152 = .ok (.aload_n 0, 1) := by decide +kernel
theorem dX12_open_153 : decode cX12_open 153 = .ok (.getfield 235, 3) := by decide +kernel
theorem dX12_open_156 : decode cX12_open 156 = .ok (.iconst 0, 1) := by decide +kernel
theorem dX12_open_157 : decode cX12_open 157 = .ok (.iastore, 1) := by decide +kernel
theorem dX12_open_158 : decode cX12_open 158 = .ok (.aload_n 0, 1) := by decide +kernel
theorem dX12_open_159 : decode cX12_open 159 = .ok (.getfield 110, 3) := by decide +kernel
theorem dX12_open_162 : decode cX12_open 162 = .ok (.aload_n 0, 1) := by decide +kernel
theorem dX12_open_163 : decode cX12_open 163 = .ok (.getfield 235, 3) := by decide +kernel
theorem dX12_open_166 : decode cX12_open 166 = .ok (.iload 4, 2) := by decide +kernel
theorem dX12_open_168 : decode cX12_open 168 = .ok (.iastore, 1) := by decide +kernel
theorem dX12_open_169 : decode cX12_open 169 = .ok (.aload_n 0, 1) := by decide +kernel
theorem dX12_open_170 : decode cX12_open 170 = .ok (.getfield 107, 3) := by decide +kernel
theorem dX12_open_173 : decode cX12_open 173 = .ok (.aload_n 0, 1) := by decide +kernel
theorem dX12_open_174 : decode cX12_open 174 = .ok (.getfield 235, 3) := by decide +kernel
theorem dX12_open_177 : decode cX12_open 177 = .ok (.iconst (-1), 1) := by decide +kernel
theorem dX12_open_178 : decode cX12_open 178 = .ok (.iastore, 1) := by decide +kernel
theorem dX12_open_179 : decode cX12_open 179 = .ok (.aload_n 0, 1) := by decide +kernel
theorem dX12_open_180 : decode cX12_open 180 = .ok (.getfield 116, 3) := by decide +kernel
theorem dX12_open_183 : decode cX12_open 183 = .ok (.aload_n 0, 1) := by decide +kernel
theorem dX12_open_184 : decode cX12_open 184 = .ok (.getfield 235, 3) := by decide +kernel
theorem dX12_open_187 : decode cX12_open 187 = .ok (.iconst 0, 1) := by decide +kernel
theorem dX12_open_188 : decode cX12_open 188 = .ok (.iastore, 1) := by decide +kernel
theorem dX12_open_189 : decode cX12_open 189 = .ok (.iload_n 2, 1) := by decide +kernel
theorem dX12_open_190 : decode cX12_open 190 = .ok (.bipush 26, 2) := by decide +kernel
theorem dX12_open_192 : decode cX12_open 192 = .ok (.if_icmp .ne 12, 3) := by decide +kernel
theorem dX12_open_195 : decode cX12_open 195 = .ok (.aload_n 0, 1) := by decide +kernel
theorem dX12_open_196 : decode cX12_open 196 = .ok (.aload_n 0, 1) := by decide +kernel
theorem dX12_open_197 : decode cX12_open 197 = .ok (.getfield 235, 3) := by decide +kernel
theorem dX12_open_200 : decode cX12_open 200 = .ok (.iload_n 3, 1) := by decide +kernel
theorem dX12_open_201 : decode cX12_open 201 = .ok (.invokevirtual 289, 3) := by decide +kernel
theorem dX12_open_204 : decode cX12_open 204 = .ok (.aload_n 0, 1) := by decide +kernel
theorem dX12_open_205 : decode cX12_open 205 = .ok (.dup, 1) := by decide +kernel
theorem dX12_open_206 : decode cX12_open 206 = .ok (.getfield 235, 3) := by decide +kernel
theorem dX12_open_209 : decode cX12_open 209 = .ok (.iconst 1, 1) := by decide +kernel
theorem dX12_open_210 : decode cX12_open 210 = .ok (.iadd, 1) := by decide +kernel
theorem dX12_open_211 : decode cX12_open 211 = .ok (.putfield 235, 3) := by decide +kernel
theorem dX12_open_214 : decode cX12_open 214 = .ok (.aload_n 0, 1) := by decide +kernel
theorem dX12_open_215 : decode cX12_open 215 = .ok (.aload_n 0, 1) := by decide +kernel
theorem dX12_open_216 : decode cX12_open 216 = .ok (.getfield 235, 3) := by decide +kernel
theorem dX12_open_219 : decode cX12_open 219 = .ok (.iconst 1, 1) := by decide +kernel
theorem dX12_open_220 : decode cX12_open 220 = .ok (.isub, 1) := by decide +kernel
theorem dX12_open_221 : decode cX12_open 221 = .ok (.invokevirtual 293, 3) := by decide +kernel
theorem dX12_open_224 : decode cX12_open 224 = .ok (.return_, 1) := by decide +kernel
theorem dX12_keep_0 : decode cX12_keep 0 = .ok (.aload_n 0, 1) := by decide +kernel
theorem dX12_keep_1 : decode cX12_keep 1 = .ok (.getfield 131, 3) := by decide +kernel
theorem dX12_keep_4 : decode cX12_keep 4 = .ok (.iload_n 1, 1) := by decide +kernel
theorem dX12_keep_5 : decode cX12_keep 5 = .ok (.aload_n 0, 1) := by decide +kernel
theorem dX12_keep_6 : decode cX12_keep 6 = .ok (.getfield 152, 3) := by decide +kernel
theorem dX12_keep_9 : decode cX12_keep 9 = .ok (.iload_n 2, 1) := by decide +kernel
theorem dX12_keep_10 : decode cX12_keep 10 = .ok (.iaload, 1) := by decide +kernel
theorem dX12_keep_11 : decode cX12_keep 11 = .ok (.iastore, 1) := by decide +kernel
theorem dX12_keep_12 : decode cX12_keep 12 = .ok (.iconst 0, 1) := by decide +kernel
theorem dX12_keep_13 : decode cX12_keep 13 = .ok (.istore_n 3, 1) := by decide +kernel
theorem dX12_keep_14 : decode cX12_keep 14 = .ok (.iload_n 3, 1) := by decide +kernel
theorem dX12_keep_15 : decode cX12_keep 15 = .ok (.iconst 3, 1) := by decide +kernel
theorem dX12_keep_16 : decode cX12_keep 16 = .ok (.if_icmp .ge 29, 3) := by decide +kernel
theorem dX12_keep_19 : decode cX12_keep 19 = .ok (.aload_n 0, 1) := by decide +kernel
theorem dX12_keep_20 : decode cX12_keep 20 = .ok (.getfield 134, 3) := by decide +kernel
theorem dX12_keep_23 : decode cX12_keep 23 = .ok (.iconst 3, 1) := by decide +kernel
theorem dX12_keep_24 : decode cX12_keep 24 = .ok (.iload_n 1, 1) := by decide +kernel
theorem dX12_keep_25 : decode cX12_keep 25 = .ok (.imul, 1) := by decide +kernel
theorem dX12_keep_26 : decode cX12_keep 26 = .ok (.iload_n 3, 1) := by decide +kernel
theorem dX12_keep_27 : decode cX12_keep 27 = .ok (.iadd, 1) := by decide +kernel
theorem dX12_keep_28 : decode cX12_keep 28 = .ok (.aload_n 0, 1) := by decide +kernel
theorem dX12_keep_29 : decode cX12_keep 29 = .ok (.getfield 155, 3) := by decide +kernel
theorem dX12_keep_32 : decode cX12_keep 32 = .ok (.iconst 3, 1) := by decide +kernel
theorem dX12_keep_33 : decode cX12_keep 33 = .ok (.iload_n 2, 1) := by decide +kernel
theorem dX12_keep_34 : decode cX12_keep 34 = .ok (.imul, 1) := by decide +kernel
theorem dX12_keep_35 : decode cX12_keep 35 = .ok (.iload_n 3, 1) := by decide +kernel
theorem dX12_keep_36 : decode cX12_keep 36 = .ok (.iadd, 1) := by decide +kernel
theorem dX12_keep_37 : decode cX12_keep 37 = .ok (.iaload, 1) := by decide +kernel
theorem dX12_keep_38 : decode cX12_keep 38 = .ok (.iastore, 1) := by decide +kernel
theorem dX12_keep_39 : decode cX12_keep 39 = .ok (.iinc 3 1, 3) := by decide +kernel
theorem dX12_keep_42 : decode cX12_keep 42 = .ok (.goto (-28), 3) := by decide +kernel
theorem dX12_keep_45 : decode cX12_keep 45 = .ok (.aload_n 0, 1) := by decide +kernel
theorem dX12_keep_46 : decode cX12_keep 46 = .ok (.getfield 137, 3) := by decide +kernel
theorem dX12_keep_49 : decode cX12_keep 49 = .ok (.iload_n 1, 1) := by decide +kernel
theorem dX12_keep_50 : decode cX12_keep 50 = .ok (.aload_n 0, 1) := by decide +kernel
theorem dX12_keep_51 : decode cX12_keep 51 = .ok (.getfield 158, 3) := by decide +kernel
theorem dX12_keep_54 : decode cX12_keep 54 = .ok (.iload_n 2, 1) := by decide +kernel
theorem dX12_keep_55 : decode cX12_keep 55 = .ok (.iaload, 1) := by decide +kernel
theorem dX12_keep_56 : decode cX12_keep 56 = .ok (.iastore, 1) := by decide +kernel
theorem dX12_keep_57 : decode cX12_keep 57 = .ok (.aload_n 0, 1) := by decide +kernel
theorem dX12_keep_58 : decode cX12_keep 58 = .ok (.getfield 140, 3) := by decide +kernel
theorem dX12_keep_61 : decode cX12_keep 61 = .ok (.iload_n 1, 1) := by decide +kernel
theorem dX12_keep_62 : decode cX12_keep 62 = .ok (.aload_n 0, 1) := by decide +kernel
theorem dX12_keep_63 : decode cX12_keep 63 = .ok (.getfield 161, 3) := by decide +kernel
theorem dX12_keep_66 : decode cX12_keep 66 = .ok (.iload_n 2, 1) := by decide +kernel
theorem dX12_keep_67 : decode cX12_keep 67 = .ok (.iaload, 1) := by decide +kernel
theorem dX12_keep_68 : decode cX12_keep 68 = .ok (.iastore, 1) := by decide +kernel
theorem dX12_keep_69 : decode cX12_keep 69 = .ok (.return_, 1) := by decide +kernel
theorem dX12_advance_0 : decode cX12_advance 0 = .ok (.aload_n 0, 1) := by decide +kernel
theorem dX12_advance_1 : decode cX12_advance 1 = .ok (.getfield 101, 3) := by decide +kernel
theorem dX12_advance_4 : decode cX12_advance 4 = .ok (.iload_n 1, 1) := by decide +kernel
theorem dX12_advance_5 : decode cX12_advance 5 = .ok (.iaload, 1) := by decide +kernel
theorem dX12_advance_6 : decode cX12_advance 6 = .ok (.istore_n 2, 1) := by decide +kernel
theorem dX12_advance_7 : decode cX12_advance 7 = .ok (.iload_n 2, 1) := by decide +kernel
theorem dX12_advance_8 : decode cX12_advance 8 = .ok (.bipush 8, 2) := by decide +kernel
theorem dX12_advance_10 : decode cX12_advance 10 = .ok (.if_icmp .gt 11, 3) := by decide +kernel
theorem dX12_advance_13 : decode cX12_advance 13 = .ok (.aload_n 0, 1) := by decide +kernel
theorem dX12_advance_14 : decode cX12_advance 14 = .ok (.iload_n 1, 1) := by decide +kernel
theorem dX12_advance_15 : decode cX12_advance 15 = .ok (.invokevirtual 296, 3) := by decide +kernel
theorem dX12_advance_18 : decode cX12_advance 18 = .ok (.goto 118, 3) := by decide +kernel
theorem dX12_advance_21 : decode cX12_advance 21 = .ok (.iload_n 2, 1) := by decide +kernel
theorem dX12_advance_22 : decode cX12_advance 22 = .ok (.bipush 12, 2) := by decide +kernel
theorem dX12_advance_24 : decode cX12_advance 24 = .ok (.if_icmp .gt 11, 3) := by decide +kernel
theorem dX12_advance_27 : decode cX12_advance 27 = .ok (.aload_n 0, 1) := by decide +kernel
theorem dX12_advance_28 : decode cX12_advance 28 = .ok (.iload_n 1, 1) := by decide +kernel
theorem dX12_advance_29 : decode cX12_advance 29 = .ok (.invokevirtual 299, 3) := by decide +kernel
theorem dX12_advance_32 : decode cX12_advance 32 = .ok (.goto 104, 3) := by decide +kernel
theorem dX12_advance_35 : decode cX12_advance 35 = .ok (.iload_n 2, 1) := by decide +kernel
theorem dX12_advance_36 : decode cX12_advance 36 = .ok (.bipush 13, 2) := by decide +kernel
theorem dX12_advance_38 : decode cX12_advance 38 = .ok (.if_icmp .ne 11, 3) := by decide +kernel
theorem dX12_advance_41 : decode cX12_advance 41 = .ok (.aload_n 0, 1) := by decide +kernel
theorem dX12_advance_42 : decode cX12_advance 42 = .ok (.iload_n 1, 1) := by decide +kernel
theorem dX12_advance_43 : decode cX12_advance 43 = .ok (.invokevirtual 302, 3) := by decide +kernel
theorem dX12_advance_46 : decode cX12_advance 46 = .ok (.goto 90, 3) := by decide +kernel
theorem dX12_advance_49 : decode cX12_advance 49 = .ok (.iload_n 2, 1) := by decide +kernel
theorem dX12_advance_50 : decode cX12_advance 50 = .ok (.bipush 14, 2) := by decide +kernel
theorem dX12_advance_52 : decode cX12_advance 52 = .ok (.if_icmp .eq 9, 3) := by decide +kernel
theorem dX12_advance_55 : decode cX12_advance 55 = .ok (.iload_n 2, 1) := by decide +kernel
theorem dX12_advance_56 : decode cX12_advance 56 = .ok (.bipush 15, 2) := by decide +kernel
theorem dX12_advance_58 : decode cX12_advance 58 = .ok (.if_icmp .ne 11, 3) := by decide +kernel
theorem dX12_advance_61 : decode cX12_advance 61 = .ok (.aload_n 0, 1) := by decide +kernel
theorem dX12_advance_62 : decode cX12_advance 62 = .ok (.iload_n 1, 1) := by decide +kernel
theorem dX12_advance_63 : decode cX12_advance 63 = .ok (.invokevirtual 305, 3) := by decide +kernel
theorem dX12_advance_66 : decode cX12_advance 66 = .ok (.goto 70, 3) := by decide +kernel
theorem dX12_advance_69 : decode cX12_advance 69 = .ok (.iload_n 2, 1) := by decide +kernel
theorem dX12_advance_70 : decode cX12_advance 70 = .ok (.bipush 16, 2) := by decide +kernel
theorem dX12_advance_72 : decode cX12_advance 72 = .ok (.if_icmp .eq 9, 3) := by decide +kernel
theorem dX12_advance_75 : decode cX12_advance 75 = .ok (.iload_n 2, 1) := by decide +kernel
theorem dX12_advance_76 : decode cX12_advance 76 = .ok (.bipush 17, 2) := by decide +kernel
theorem dX12_advance_78 : decode cX12_advance 78 = .ok (.if_icmp .ne 11, 3) := by decide +kernel
theorem dX12_advance_81 : decode cX12_advance 81 = .ok (.aload_n 0, 1) := by decide +kernel
theorem dX12_advance_82 : decode cX12_advance 82 = .ok (.iload_n 1, 1) := by decide +kernel
theorem dX12_advance_83 : decode cX12_advance 83 = .ok (.invokevirtual 308, 3) := by decide +kernel
theorem dX12_advance_86 : decode cX12_advance 86 = .ok (.goto 50, 3) := by decide +kernel
theorem dX12_advance_89 : decode cX12_advance 89 = .ok (.iload_n 2, 1) := by decide +kernel
theorem dX12_advance_90 : decode cX12_advance 90 = .ok (.bipush 20, 2) := by decide +kernel
theorem dX12_advance_92 : decode cX12_advance 92 = .ok (.if_icmp .gt 11, 3) := by decide +kernel
theorem dX12_advance_95 : decode cX12_advance 95 = .ok (.aload_n 0, 1) := by decide +kernel
theorem dX12_advance_96 : decode cX12_advance 96 = .ok (.iload_n 1, 1) := by decide +kernel
theorem dX12_advance_97 : decode cX12_advance 97 = .ok (.invokevirtual 311, 3) := by decide +kernel
theorem dX12_advance_100 : decode cX12_advance 100 = .ok (.goto 36, 3) := by decide +kernel
theorem dX12_advance_103 : decode cX12_advance 103 = .ok (.iload_n 2, 1) := by decide +kernel
theorem dX12_advance_104 : decode cX12_advance 104 = .ok (.bipush 22, 2) := by decide +kernel
theorem dX12_advance_106 : decode cX12_advance 106 = .ok (.if_icmp .ne 11, 3) := by decide +kernel
theorem dX12_advance_109 : decode cX12_advance 109 = .ok (.aload_n 0, 1) := by decide +kernel
theorem dX12_advance_110 : decode cX12_advance 110 = .ok (.iload_n 1, 1) := by decide +kernel
theorem dX12_advance_111 : decode cX12_advance 111 = .ok (.invokevirtual 314, 3) := by decide +kernel
theorem dX12_advance_114 : decode cX12_advance 114 = .ok (.goto 22, 3) := by decide +kernel
theorem dX12_advance_117 : decode cX12_advance 117 = .ok (.iload_n 2, 1) := by decide +kernel
theorem dX12_advance_118 : decode cX12_advance 118 = .ok (.bipush 26, 2) := by decide +kernel
theorem dX12_advance_120 : decode cX12_advance 120 = .ok (.if_icmp .ne 11, 3) := by decide +kernel
theorem dX12_advance_123 : decode cX12_advance 123 = .ok (.aload_n 0, 1) := by decide +kernel
theorem dX12_advance_124 : decode cX12_advance 124 = .ok (.iload_n 1, 1) := by decide +kernel
theorem dX12_advance_125 : decode cX12_advance 125 = .ok (.invokevirtual 317, 3) := by decide +kernel
theorem dX12_advance_128 : decode cX12_advance 128 = .ok (.goto 8, 3) := by decide +kernel
theorem dX12_advance_131 : decode cX12_advance 131 = .ok (.aload_n 0, 1) := by decide +kernel
theorem dX12_advance_132 : decode cX12_advance 132 = .ok (.iload_n 1, 1) := by decide +kernel
theorem dX12_advance_133 : decode cX12_advance 133 = .ok (.invokevirtual 320, 3) := by decide +kernel
theorem dX12_advance_136 : decode cX12_advance 136 = .ok (.return_, 1) := by decide +kernel
theorem dX12_reckon_0 : decode cX12_reckon 0 = .ok (.aload_n 0, 1) := by decide +kernel
theorem dX12_reckon_1 : decode cX12_reckon 1 = .ok (.getfield 104, 3) := by decide +kernel
theorem dX12_reckon_4 : decode cX12_reckon 4 = .ok (.iload_n 1, 1) := by decide +kernel
theorem dX12_reckon_5 : decode cX12_reckon 5 = .ok (.iaload, 1) := by decide +kernel
theorem dX12_reckon_6 : decode cX12_reckon 6 = .ok (.ifCond .ne 17, 3) := by decide +kernel
theorem dX12_reckon_9 : decode cX12_reckon 9 = .ok (.aload_n 0, 1) := by decide +kernel
theorem dX12_reckon_10 : decode cX12_reckon 10 = .ok (.iload_n 1, 1) := by decide +kernel
theorem dX12_reckon_11 : decode cX12_reckon 11 = .ok (.aload_n 0, 1) := by decide +kernel
theorem dX12_reckon_12 : decode cX12_reckon 12 = .ok (.getfield 110, 3) := by decide +kernel
theorem dX12_reckon_15 : decode cX12_reckon 15 = .ok (.iload_n 1, 1) := by decide +kernel
theorem dX12_reckon_16 : decode cX12_reckon 16 = .ok (.iaload, 1) := by decide +kernel
theorem dX12_reckon_17 : decode cX12_reckon 17 = .ok (.invokevirtual 323, 3) := by decide +kernel
theorem dX12_reckon_20 : decode cX12_reckon 20 = .ok (.goto 106, 3) := by decide +kernel
theorem dX12_reckon_23 : decode cX12_reckon 23 = .ok (.aload_n 0, 1) := by decide +kernel
theorem dX12_reckon_24 : decode cX12_reckon 24 = .ok (.getfield 104, 3) := by decide +kernel
theorem dX12_reckon_27 : decode cX12_reckon 27 = .ok (.iload_n 1, 1) := by decide +kernel
theorem dX12_reckon_28 : decode cX12_reckon 28 = .ok (.iaload, 1) := by decide +kernel
theorem dX12_reckon_29 : decode cX12_reckon 29 = .ok (.iconst 1, 1) := by decide +kernel
theorem dX12_reckon_30 : decode cX12_reckon 30 = .ok (.if_icmp .ne 37, 3) := by decide +kernel
theorem dX12_reckon_33 : decode cX12_reckon 33 = .ok (.aload_n 0, 1) := by decide +kernel
theorem dX12_reckon_34 : decode cX12_reckon 34 = .ok (.getfield 113, 3) := by decide +kernel
theorem dX12_reckon_37 : decode cX12_reckon 37 = .ok (.iload_n 1, 1) := by decide +kernel
theorem dX12_reckon_38 : decode cX12_reckon 38 = .ok (.aload_n 0, 1) := by decide +kernel
theorem dX12_reckon_39 : decode cX12_reckon 39 = .ok (.getfield 232, 3) := by decide +kernel
theorem dX12_reckon_42 : decode cX12_reckon 42 = .ok (.iastore, 1) := by decide +kernel
theorem dX12_reckon_43 : decode cX12_reckon 43 = .ok (.aload_n 0, 1) := by decide +kernel
theorem dX12_reckon_44 : decode cX12_reckon 44 = .ok (.iload_n 1, 1) := by decide +kernel
theorem dX12_reckon_45 : decode cX12_reckon 45 = .ok (.aload_n 0, 1) := by decide +kernel
theorem dX12_reckon_46 : decode cX12_reckon 46 = .ok (.aload_n 0, 1) := by decide +kernel
theorem dX12_reckon_47 : decode cX12_reckon 47 = .ok (.getfield 98, 3) := by decide +kernel
theorem dX12_reckon_50 : decode cX12_reckon 50 = .ok (.iload_n 1, 1) := by decide +kernel
theorem dX12_reckon_51 : decode cX12_reckon 51 = .ok (.iaload, 1) := by decide +kernel
theorem dX12_reckon_52 : decode cX12_reckon 52 = .ok (.aload_n 0, 1) := by decide +kernel
theorem dX12_reckon_53 : decode cX12_reckon 53 = .ok (.getfield 107, 3) := by decide +kernel
theorem dX12_reckon_56 : decode cX12_reckon 56 = .ok (.iload_n 1, 1) := by decide +kernel
theorem dX12_reckon_57 : decode cX12_reckon 57 = .ok (.iaload, 1) := by decide +kernel
theorem dX12_reckon_58 : decode cX12_reckon 58 = .ok (.invokevirtual 201, 3) := by decide +kernel
theorem dX12_reckon_61 : decode cX12_reckon 61 = .ok (.invokevirtual 323, 3) := by decide +kernel
theorem dX12_reckon_64 : decode cX12_reckon 64 = .ok (.goto 62, 3) := by decide +kernel
theorem dX12_reckon_67 : decode cX12_reckon 67 = .ok (.aload_n 0, 1) := by decide +kernel
theorem dX12_reckon_68 : decode cX12_reckon 68 = .ok (.getfield 101, 3) := by decide +kernel
theorem dX12_reckon_71 : decode cX12_reckon 71 = .ok (.iload_n 1, 1) := by decide +kernel
theorem dX12_reckon_72 : decode cX12_reckon 72 = .ok (.iaload, 1) := by decide +kernel
theorem dX12_reckon_73 : decode cX12_reckon 73 = .ok (.iconst 5, 1) := by decide +kernel
theorem dX12_reckon_74 : decode cX12_reckon 74 = .ok (.if_icmp .eq 14, 3) := by decide +kernel
theorem dX12_reckon_77 : decode cX12_reckon 77 = .ok (.aload_n 0, 1) := by decide +kernel
theorem dX12_reckon_78 : decode cX12_reckon 78 = .ok (.getfield 101, 3) := by decide +kernel
theorem dX12_reckon_81 : decode cX12_reckon 81 = .ok (.iload_n 1, 1) := by decide +kernel
theorem dX12_reckon_82 : decode cX12_reckon 82 = .ok (.iaload, 1) := by decide +kernel
theorem dX12_reckon_83 : decode cX12_reckon 83 = .ok (.bipush 6, 2) := by decide +kernel
theorem dX12_reckon_85 : decode cX12_reckon 85 = .ok (.if_icmp .ne 18, 3) := by decide +kernel
theorem dX12_reckon_88 : decode cX12_reckon 88 = .ok (.aload_n 0, 1) := by decide +kernel
theorem dX12_reckon_89 : decode cX12_reckon 89 = .ok (.getfield 232, 3) := by decide +kernel
theorem dX12_reckon_92 : decode cX12_reckon 92 = .ok (.ifCond .ne 11, 3) := by decide +kernel
theorem dX12_reckon_95 : decode cX12_reckon 95 = .ok (.aload_n 0, 1) := by decide +kernel
theorem dX12_reckon_96 : decode cX12_reckon 96 = .ok (.iconst 5, 1) := by decide +kernel
theorem dX12_reckon_97 : decode cX12_reckon 97 = .ok (.putfield 257, 3) := by decide +kernel
theorem dX12_reckon_100 : decode cX12_reckon 100 = .ok (.goto 26, 3) := by decide +kernel
theorem dX12_reckon_103 : decode cX12_reckon 103 = .ok (.aload_n 0, 1) := by decide +kernel
theorem dX12_reckon_104 : decode cX12_reckon 104 = .ok (.aload_n 0, 1) := by decide +kernel
theorem dX12_reckon_105 : decode cX12_reckon 105 = .ok (.getfield 101, 3) := by decide +kernel
theorem dX12_reckon_108 : decode cX12_reckon 108 = .ok (.iload_n 1, 1) := by decide +kernel
theorem dX12_reckon_109 : decode cX12_reckon 109 = .ok (.iaload, 1) := by decide +kernel
theorem dX12_reckon_110 : decode cX12_reckon 110 = .ok (.aload_n 0, 1) := by decide +kernel
theorem dX12_reckon_111 : decode cX12_reckon 111 = .ok (.getfield 113, 3) := by decide +kernel
theorem dX12_reckon_114 : decode cX12_reckon 114 = .ok (.iload_n 1, 1) := by decide +kernel
theorem dX12_reckon_115 : decode cX12_reckon 115 = .ok (.iaload, 1) := by decide +kernel
theorem dX12_reckon_116 : decode cX12_reckon 116 = .ok (.aload_n 0, 1) := by decide +kernel
theorem dX12_reckon_117 : decode cX12_reckon 117 = .ok (.getfield 232, 3) := by decide +kernel
theorem dX12_reckon_120 : decode cX12_reckon 120 = .ok (.invokestatic 326, 3) := by decide +kernel
theorem dX12_reckon_123 : decode cX12_reckon 123 = .ok (.invokevirtual 330, 3) := by decide +kernel
theorem dX12_reckon_126 : decode cX12_reckon 126 = .ok (.return_, 1) := by decide +kernel
theorem dX12_joined_0 : decode cX12_joined 0 = .ok (.iload_n 0, 1) := by decide +kernel
theorem dX12_joined_1 : decode cX12_joined 1 = .ok (.iconst 3, 1) := by decide +kernel
theorem dX12_joined_2 : decode cX12_joined 2 = .ok (.if_icmp .ge 28, 3) := by decide +kernel
theorem dX12_joined_5 : decode cX12_joined 5 = .ok (.iload_n 0, 1) := by decide +kernel
theorem dX12_joined_6 : decode cX12_joined 6 = .ok (.ifCond .ne 9, 3) := by decide +kernel
theorem dX12_joined_9 : decode cX12_joined 9 = .ok (.iload_n 1, 1) := by decide +kernel
theorem dX12_joined_10 : decode cX12_joined 10 = .ok (.iload_n 2, 1) := by decide +kernel
theorem dX12_joined_11 : decode cX12_joined 11 = .ok (.iadd, 1) := by decide +kernel
theorem dX12_joined_12 : decode cX12_joined 12 = .ok (.goto 17, 3) := by decide +kernel
theorem dX12_joined_15 : decode cX12_joined 15 = .ok (.iload_n 0, 1) := by decide +kernel
theorem dX12_joined_16 : decode cX12_joined 16 = .ok (.iconst 1, 1) := by decide +kernel
theorem dX12_joined_17 : decode cX12_joined 17 = .ok (.if_icmp .ne 9, 3) := by decide +kernel
theorem dX12_joined_20 : decode cX12_joined 20 = .ok (.iload_n 1, 1) := by decide +kernel
theorem dX12_joined_21 : decode cX12_joined 21 = .ok (.iload_n 2, 1) := by decide +kernel
theorem dX12_joined_22 : decode cX12_joined 22 = .ok (.isub, 1) := by decide +kernel
theorem dX12_joined_23 : decode cX12_joined 23 = .ok (.goto 6, 3) := by decide +kernel
theorem dX12_joined_26 : decode cX12_joined 26 = .ok (.iload_n 1, 1) := by decide +kernel
theorem dX12_joined_27 : decode cX12_joined 27 = .ok (.iload_n 2, 1) := by decide +kernel
theorem dX12_joined_28 : decode cX12_joined 28 = .ok (.imul, 1) := by decide +kernel
theorem dX12_joined_29 : decode cX12_joined 29 = .ok (.ireturn, 1) := by decide +kernel
theorem dX12_joined_30 : decode cX12_joined 30 = .ok (.iload_n 0, 1) := by decide +kernel
theorem dX12_joined_31 : decode cX12_joined 31 = .ok (.iconst 5, 1) := by decide +kernel
theorem dX12_joined_32 : decode cX12_joined 32 = .ok (.if_icmp .ge 32, 3) := by decide +kernel
theorem dX12_joined_35 : decode cX12_joined 35 = .ok (.iload_n 0, 1) := by decide +kernel
theorem dX12_joined_36 : decode cX12_joined 36 = .ok (.iconst 3, 1) := by decide +kernel
theorem dX12_joined_37 : decode cX12_joined 37 = .ok (.if_icmp .ne 7, 3) := by decide +kernel
theorem dX12_joined_40 : decode cX12_joined 40 = .ok (.iconst 1, 1) := by decide +kernel
theorem dX12_joined_41 : decode cX12_joined 41 = .ok (.goto 4, 3) := by decide +kernel
theorem dX12_joined_44 : decode cX12_joined 44 = .ok (.iconst 0, 1) := by decide +kernel
theorem dX12_joined_45 : decode cX12_joined 45 = .ok (.iload_n 1, 1) := by decide +kernel
theorem dX12_joined_46 : decode cX12_joined 46 = .ok (.iload_n 2, 1) := by decide +kernel
theorem dX12_joined_47 : decode cX12_joined 47 = .ok (.if_icmp .ge 7, 3) := by decide +kernel
theorem dX12_joined_50 : decode cX12_joined 50 = .ok (.iconst 1, 1) := by decide +kernel
theorem dX12_joined_51 : decode cX12_joined 51 = .ok (.goto 4, 3) := by decide +kernel
theorem dX12_joined_54 : decode cX12_joined 54 = .ok (.iconst 0, 1) := by decide +kernel
theorem dX12_joined_55 : decode cX12_joined 55 = .ok (.if_icmp .ne 7, 3) := by decide +kernel
theorem dX12_joined_58 : decode cX12_joined 58 = .ok (.iload_n 1, 1) := by decide +kernel
theorem dX12_joined_59 : decode cX12_joined 59 = .ok (.goto 4, 3) := by decide +kernel
theorem dX12_joined_62 : decode cX12_joined 62 = .ok (.iload_n 2, 1) := by decide +kernel
theorem dX12_joined_63 : decode cX12_joined 63 = .ok (.ireturn, 1) := by decide +kernel
theorem dX12_joined_64 : decode cX12_joined 64 = .ok (.iload_n 0, 1) := by decide +kernel
theorem dX12_joined_65 : decode cX12_joined 65 = .ok (.bipush 7, 2) := by decide +kernel
theorem dX12_joined_67 : decode cX12_joined 67 = .ok (.if_icmp .ge 18, 3) := by decide +kernel
theorem dX12_joined_70 : decode cX12_joined 70 = .ok (.iload_n 0, 1) := by decide +kernel
theorem dX12_joined_71 : decode cX12_joined 71 = .ok (.iconst 5, 1) := by decide +kernel
theorem dX12_joined_72 : decode cX12_joined 72 = .ok (.if_icmp .ne 9, 3) := by decide +kernel
theorem dX12_joined_75 : decode cX12_joined 75 = .ok (.iload_n 1, 1) := by decide +kernel
theorem dX12_joined_76 : decode cX12_joined 76 = .ok (.iload_n 2, 1) := by decide +kernel
theorem dX12_joined_77 : decode cX12_joined 77 = .ok (.idiv, 1) := by decide +kernel
theorem dX12_joined_78 : decode cX12_joined 78 = .ok (.goto 6, 3) := by decide +kernel
theorem dX12_joined_81 : decode cX12_joined 81 = .ok (.iload_n 1, 1) := by decide +kernel
theorem dX12_joined_82 : decode cX12_joined 82 = .ok (.iload_n 2, 1) := by decide +kernel
theorem dX12_joined_83 : decode cX12_joined 83 = .ok (.irem, 1) := by decide +kernel
theorem dX12_joined_84 : decode cX12_joined 84 = .ok (.ireturn, 1) := by decide +kernel
theorem dX12_joined_85 : decode cX12_joined 85 = .ok (.iload_n 0, 1) := by decide +kernel
theorem dX12_joined_86 : decode cX12_joined 86 = .ok (.bipush 7, 2) := by decide +kernel
theorem dX12_joined_88 : decode cX12_joined 88 = .ok (.if_icmp .ne 11, 3) := by decide +kernel
theorem dX12_joined_91 : decode cX12_joined 91 = .ok (.iload_n 1, 1) := by decide +kernel
theorem dX12_joined_92 : decode cX12_joined 92 = .ok (.iload_n 2, 1) := by decide +kernel
theorem dX12_joined_93 : decode cX12_joined 93 = .ok (.if_icmp .ge 15, 3) := by decide +kernel
theorem dX12_joined_96 : decode cX12_joined 96 = .ok (.goto 8, 3) := by decide +kernel
theorem dX12_joined_99 : decode cX12_joined 99 = .ok (.iload_n 1, 1) := by decide +kernel
theorem dX12_joined_100 : decode cX12_joined 100 = .ok (.iload_n 2, 1) := by decide +kernel
theorem dX12_joined_101 : decode cX12_joined 101 = .ok (.if_icmp .ne 7, 3) := by decide +kernel
theorem dX12_joined_104 : decode cX12_joined 104 = .ok (.iconst 1, 1) := by decide +kernel
theorem dX12_joined_105 : decode cX12_joined 105 = .ok (.goto 4, 3) := by decide +kernel
theorem dX12_joined_108 : decode cX12_joined 108 = .ok (.iconst 0, 1) := by decide +kernel
theorem dX12_joined_109 : decode cX12_joined 109 = .ok (.ireturn, 1) := by decide +kernel
theorem dX12_choose_0 : decode cX12_choose 0 = .ok (.aload_n 0, 1) := by decide +kernel
theorem dX12_choose_1 : decode cX12_choose 1 = .ok (.getfield 101, 3) := by decide +kernel
theorem dX12_choose_4 : decode cX12_choose 4 = .ok (.iload_n 1, 1) := by decide +kernel
theorem dX12_choose_5 : decode cX12_choose 5 = .ok (.iaload, 1) := by decide +kernel
theorem dX12_choose_6 : decode cX12_choose 6 = .ok (.istore_n 2, 1) := by decide +kernel
theorem dX12_choose_7 : decode cX12_choose 7 = .ok (.aload_n 0, 1) := by decide +kernel
theorem dX12_choose_8 : decode cX12_choose 8 = .ok (.aload_n 0, 1) := by decide +kernel
theorem dX12_choose_9 : decode cX12_choose 9 = .ok (.getfield 98, 3) := by decide +kernel
theorem dX12_choose_12 : decode cX12_choose 12 = .ok (.iload_n 1, 1) := by decide +kernel
theorem dX12_choose_13 : decode cX12_choose 13 = .ok (.iaload, 1) := by decide +kernel
theorem dX12_choose_14 : decode cX12_choose 14 = .ok (.aload_n 0, 1) := by decide +kernel
theorem dX12_choose_15 : decode cX12_choose 15 = .ok (.getfield 110, 3) := by decide +kernel
theorem dX12_choose_18 : decode cX12_choose 18 = .ok (.iload_n 1, 1) := by decide +kernel
theorem dX12_choose_19 : decode cX12_choose 19 = .ok (.iaload, 1) := by decide +kernel
theorem dX12_choose_20 : decode cX12_choose 20 = .ok (.invokevirtual 201, 3) := by decide +kernel
theorem dX12_choose_23 : decode cX12_choose 23 = .ok (.istore_n 3, 1) := by decide +kernel
theorem dX12_choose_24 : decode cX12_choose 24 = .ok (.aload_n 0, 1) := by decide +kernel
theorem dX12_choose_25 : decode cX12_choose 25 = .ok (.getfield 104, 3) := by decide +kernel
theorem dX12_choose_28 : decode cX12_choose 28 = .ok (.iload_n 1, 1) := by decide +kernel
theorem dX12_choose_29 : decode cX12_choose 29 = .ok (.iaload, 1) := by decide +kernel
theorem dX12_choose_30 : decode cX12_choose 30 = .ok (.ifCond .ne 17, 3) := by decide +kernel
theorem dX12_choose_33 : decode cX12_choose 33 = .ok (.aload_n 0, 1) := by decide +kernel
theorem dX12_choose_34 : decode cX12_choose 34 = .ok (.iload_n 1, 1) := by decide +kernel
theorem dX12_choose_35 : decode cX12_choose 35 = .ok (.aload_n 0, 1) := by decide +kernel
theorem dX12_choose_36 : decode cX12_choose 36 = .ok (.getfield 110, 3) := by decide +kernel
theorem dX12_choose_39 : decode cX12_choose 39 = .ok (.iload_n 1, 1) := by decide +kernel
theorem dX12_choose_40 : decode cX12_choose 40 = .ok (.iaload, 1) := by decide +kernel
theorem dX12_choose_41 : decode cX12_choose 41 = .ok (.invokevirtual 323, 3) := by decide +kernel
theorem dX12_choose_44 : decode cX12_choose 44 = .ok (.goto 108, 3) := by decide +kernel
theorem dX12_choose_47 : decode cX12_choose 47 = .ok (.iload_n 2, 1) := by decide +kernel
theorem dX12_choose_48 : decode cX12_choose 48 = .ok (.bipush 9, 2) := by decide +kernel
theorem dX12_choose_50 : decode cX12_choose 50 = .ok (.if_icmp .ne 22, 3) := by decide +kernel
theorem dX12_choose_53 : decode cX12_choose 53 = .ok (.aload_n 0, 1) := by decide +kernel
theorem dX12_choose_54 : decode cX12_choose 54 = .ok (.aload_n 0, 1) := by decide +kernel
theorem dX12_choose_55 : decode cX12_choose 55 = .ok (.getfield 232, 3) := by decide +kernel
theorem dX12_choose_58 : decode cX12_choose 58 = .ok (.ifCond .ne 7, 3) := by decide +kernel
theorem dX12_choose_61 : decode cX12_choose 61 = .ok (.iconst 1, 1) := by decide +kernel
theorem dX12_choose_62 : decode cX12_choose 62 = .ok (.goto 4, 3) := by decide +kernel
theorem dX12_choose_65 : decode cX12_choose 65 = .ok (.iconst 0, 1) := by decide +kernel
theorem dX12_choose_66 : decode cX12_choose 66 = .ok (.invokevirtual 330, 3) := by decide +kernel
theorem dX12_choose_69 : decode cX12_choose 69 = .ok (.goto 83, 3) := by decide +kernel
theorem dX12_choose_72 : decode cX12_choose 72 = .ok (.aload_n 0, 1) := by decide +kernel
theorem dX12_choose_73 : decode cX12_choose 73 = .ok (.getfield 104, 3) := by decide +kernel
theorem dX12_choose_76 : decode cX12_choose 76 = .ok (.iload_n 1, 1) := by decide +kernel
theorem dX12_choose_77 : decode cX12_choose 77 = .ok (.iaload, 1) := by decide +kernel
theorem dX12_choose_78 : decode cX12_choose 78 = .ok (.iconst 2, 1) := by decide +kernel
theorem dX12_choose_79 : decode cX12_choose 79 = .ok (.if_icmp .eq 29, 3) := by decide +kernel
theorem dX12_choose_82 : decode cX12_choose 82 = .ok (.iload_n 2, 1) := by decide +kernel
theorem dX12_choose_83 : decode cX12_choose 83 = .ok (.bipush 10, 2) := by decide +kernel
theorem dX12_choose_85 : decode cX12_choose 85 = .ok (.if_icmp .ne 10, 3) := by decide +kernel
theorem dX12_choose_88 : decode cX12_choose 88 = .ok (.aload_n 0, 1) := by decide +kernel
theorem dX12_choose_89 : decode cX12_choose 89 = .ok (.getfield 232, 3) := by decide +kernel
