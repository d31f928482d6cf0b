theorem d_Mo_look_114 : decode cX9_look 114 = .ok (.ireturn, 1) := by decide +kernel
theorem d_Mo_look_115 : decode cX9_look 115 = .ok (.iload_n 1, 1) := by decide +kernel
theorem d_Mo_look_116 : decode cX9_look 116 = .ok (.bipush 9, 2) := by decide +kernel
theorem d_Mo_look_118 : decode cX9_look 118 = .ok (.if_icmp .ne 10, 3) := by decide +kernel
theorem d_Mo_look_121 : decode cX9_look 121 = .ok (.aload_n 0, 1) := by decide +kernel
theorem d_Mo_look_122 : decode cX9_look 122 = .ok (.getfield 7, 3) := by decide +kernel
theorem d_Mo_look_125 : decode cX9_look 125 = .ok (.iconst 1, 1) := by decide +kernel
theorem d_Mo_look_126 : decode cX9_look 126 = .ok (.iaload, 1) := by decide +kernel
theorem d_Mo_look_127 : decode cX9_look 127 = .ok (.ireturn, 1) := by decide +kernel
theorem d_Mo_look_128 : decode cX9_look 128 = .ok (.iload_n 1, 1) := by decide +kernel
theorem d_Mo_look_129 : decode cX9_look 129 = .ok (.bipush 10, 2) := by decide +kernel
theorem d_Mo_look_131 : decode cX9_look 131 = .ok (.if_icmp .ne 10, 3) := by decide +kernel
theorem d_Mo_look_134 : decode cX9_look 134 = .ok (.aload_n 0, 1) := by decide +kernel
theorem d_Mo_look_135 : decode cX9_look 135 = .ok (.getfield 40, 3) := by decide +kernel
theorem d_Mo_look_138 : decode cX9_look 138 = .ok (.iconst 0, 1) := by decide +kernel
theorem d_Mo_look_139 : decode cX9_look 139 = .ok (.iaload, 1) := by decide +kernel
theorem d_Mo_look_140 : decode cX9_look 140 = .ok (.ireturn, 1) := by decide +kernel
theorem d_Mo_look_141 : decode cX9_look 141 = .ok (.iload_n 1, 1) := by decide +kernel
theorem d_Mo_look_142 : decode cX9_look 142 = .ok (.bipush 11, 2) := by decide +kernel
theorem d_Mo_look_144 : decode cX9_look 144 = .ok (.if_icmp .ne 8, 3) := by decide +kernel
theorem d_Mo_look_147 : decode cX9_look 147 = .ok (.aload_n 0, 1) := by decide +kernel
theorem d_Mo_look_148 : decode cX9_look 148 = .ok (.getfield 312, 3) := by decide +kernel
theorem d_Mo_look_151 : decode cX9_look 151 = .ok (.ireturn, 1) := by decide +kernel
theorem d_Mo_look_152 : decode cX9_look 152 = .ok (.iload_n 1, 1) := by decide +kernel
theorem d_Mo_look_153 : decode cX9_look 153 = .ok (.bipush 12, 2) := by decide +kernel
theorem d_Mo_look_155 : decode cX9_look 155 = .ok (.if_icmp .ne 8, 3) := by decide +kernel
theorem d_Mo_look_158 : decode cX9_look 158 = .ok (.aload_n 0, 1) := by decide +kernel
theorem d_Mo_look_159 : decode cX9_look 159 = .ok (.getfield 315, 3) := by decide +kernel
theorem d_Mo_look_162 : decode cX9_look 162 = .ok (.ireturn, 1) := by decide +kernel
theorem d_Mo_look_163 : decode cX9_look 163 = .ok (.iload_n 1, 1) := by decide +kernel
theorem d_Mo_look_164 : decode cX9_look 164 = .ok (.bipush 13, 2) := by decide +kernel
theorem d_Mo_look_166 : decode cX9_look 166 = .ok (.if_icmp .ne 8, 3) := by decide +kernel
theorem d_Mo_look_169 : decode cX9_look 169 = .ok (.aload_n 0, 1) := by decide +kernel
theorem d_Mo_look_170 : decode cX9_look 170 = .ok (.getfield 318, 3) := by decide +kernel
theorem d_Mo_look_173 : decode cX9_look 173 = .ok (.ireturn, 1) := by decide +kernel
theorem d_Mo_look_174 : decode cX9_look 174 = .ok (.iload_n 1, 1) := by decide +kernel
theorem d_Mo_look_175 : decode cX9_look 175 = .ok (.bipush 14, 2) := by decide +kernel
theorem d_Mo_look_177 : decode cX9_look 177 = .ok (.if_icmp .ne 10, 3) := by decide +kernel
theorem d_Mo_look_180 : decode cX9_look 180 = .ok (.aload_n 0, 1) := by decide +kernel
theorem d_Mo_look_181 : decode cX9_look 181 = .ok (.getfield 143, 3) := by decide +kernel
theorem d_Mo_look_184 : decode cX9_look 184 = .ok (.goto 6, 3) := by decide +kernel
theorem d_Mo_look_187 : decode cX9_look 187 = .ok (.ldc_w 516, 3) := by decide +kernel
theorem d_Mo_look_190 : decode cX9_look 190 = .ok (.ireturn, 1) := by decide +kernel
theorem d_Lw_law_0 : decode code 0 = .ok (.new 7, 3) := by decide +kernel
theorem d_Lw_law_3 : decode code 3 = .ok (.dup, 1) := by decide +kernel
theorem d_Lw_law_4 : decode code 4 = .ok (.invokespecial 9, 3) := by decide +kernel
theorem d_Lw_law_7 : decode code 7 = .ok (.astore_n 1, 1) := by decide +kernel
theorem d_Lw_law_8 : decode code 8 = .ok (.new 10, 3) := by decide +kernel
theorem d_Lw_law_11 : decode code 11 = .ok (.dup, 1) := by decide +kernel
theorem d_Lw_law_12 : decode code 12 = .ok (.invokespecial 12, 3) := by decide +kernel
theorem d_Lw_law_15 : decode code 15 = .ok (.astore_n 2, 1) := by decide +kernel
theorem d_Lw_law_16 : decode code 16 = .ok (.iconst 0, 1) := by decide +kernel
theorem d_Lw_law_17 : decode code 17 = .ok (.istore_n 3, 1) := by decide +kernel
theorem d_Lw_law_18 : decode code 18 = .ok (.iload_n 3, 1) := by decide +kernel
theorem d_Lw_law_19 : decode code 19 = .ok (.aload_n 0, 1) := by decide +kernel
theorem d_Lw_law_20 : decode code 20 = .ok (.arraylength, 1) := by decide +kernel
theorem d_Lw_law_21 : decode code 21 = .ok (.bipush 6, 2) := by decide +kernel
theorem d_Lw_law_23 : decode code 23 = .ok (.isub, 1) := by decide +kernel
theorem d_Lw_law_24 : decode code 24 = .ok (.if_icmp .gt 1399, 3) := by decide +kernel
theorem d_Lw_law_27 : decode code 27 = .ok (.aload_n 0, 1) := by decide +kernel
theorem d_Lw_law_28 : decode code 28 = .ok (.iload_n 3, 1) := by decide +kernel
theorem d_Lw_law_29 : decode code 29 = .ok (.iaload, 1) := by decide +kernel
theorem d_Lw_law_30 : decode code 30 = .ok (.bipush 63, 2) := by decide +kernel
theorem d_Lw_law_32 : decode code 32 = .ok (.iand, 1) := by decide +kernel
theorem d_Lw_law_33 : decode code 33 = .ok (.tableswitch 1384 0 38 #[171, 194, 237, 280, 323, 366, 399, 422, 485, 508, 531, 554, 587, 620, 653, 686, 709, 752, 775, 808, 831, 854, 887, 910, 943, 966, 1019, 1062, 1095, 1118, 1141, 1174, 1197, 1230, 1253, 1286, 1309, 1322, 1361], 171) := by decide +kernel
theorem d_Lw_law_204 : decode code 204 = .ok (.aload_n 1, 1) := by decide +kernel
theorem d_Lw_law_205 : decode code 205 = .ok (.aload_n 0, 1) := by decide +kernel
theorem d_Lw_law_206 : decode code 206 = .ok (.iload_n 3, 1) := by decide +kernel
theorem d_Lw_law_207 : decode code 207 = .ok (.iconst 1, 1) := by decide +kernel
theorem d_Lw_law_208 : decode code 208 = .ok (.iadd, 1) := by decide +kernel
theorem d_Lw_law_209 : decode code 209 = .ok (.iaload, 1) := by decide +kernel
theorem d_Lw_law_210 : decode code 210 = .ok (.invokevirtual 13, 3) := by decide +kernel
theorem d_Lw_law_213 : decode code 213 = .ok (.aload_n 2, 1) := by decide +kernel
theorem d_Lw_law_214 : decode code 214 = .ok (.aload_n 0, 1) := by decide +kernel
theorem d_Lw_law_215 : decode code 215 = .ok (.iload_n 3, 1) := by decide +kernel
theorem d_Lw_law_216 : decode code 216 = .ok (.iconst 1, 1) := by decide +kernel
theorem d_Lw_law_217 : decode code 217 = .ok (.iadd, 1) := by decide +kernel
theorem d_Lw_law_218 : decode code 218 = .ok (.iaload, 1) := by decide +kernel
theorem d_Lw_law_219 : decode code 219 = .ok (.invokevirtual 17, 3) := by decide +kernel
theorem d_Lw_law_222 : decode code 222 = .ok (.if_icmp .eq 1195, 3) := by decide +kernel
theorem d_Lw_law_225 : decode code 225 = .ok (.iconst 0, 1) := by decide +kernel
theorem d_Lw_law_226 : decode code 226 = .ok (.ireturn, 1) := by decide +kernel
theorem d_Lw_law_227 : decode code 227 = .ok (.aload_n 1, 1) := by decide +kernel
theorem d_Lw_law_228 : decode code 228 = .ok (.aload_n 0, 1) := by decide +kernel
theorem d_Lw_law_229 : decode code 229 = .ok (.iload_n 3, 1) := by decide +kernel
theorem d_Lw_law_230 : decode code 230 = .ok (.iconst 1, 1) := by decide +kernel
theorem d_Lw_law_231 : decode code 231 = .ok (.iadd, 1) := by decide +kernel
theorem d_Lw_law_232 : decode code 232 = .ok (.iaload, 1) := by decide +kernel
theorem d_Lw_law_233 : decode code 233 = .ok (.aload_n 0, 1) := by decide +kernel
theorem d_Lw_law_234 : decode code 234 = .ok (.iload_n 3, 1) := by decide +kernel
theorem d_Lw_law_235 : decode code 235 = .ok (.iconst 2, 1) := by decide +kernel
theorem d_Lw_law_236 : decode code 236 = .ok (.iadd, 1) := by decide +kernel
theorem d_Lw_law_237 : decode code 237 = .ok (.iaload, 1) := by decide +kernel
theorem d_Lw_law_238 : decode code 238 = .ok (.aload_n 0, 1) := by decide +kernel
theorem d_Lw_law_239 : decode code 239 = .ok (.iload_n 3, 1) := by decide +kernel
theorem d_Lw_law_240 : decode code 240 = .ok (.iconst 3, 1) := by decide +kernel
theorem d_Lw_law_241 : decode code 241 = .ok (.iadd, 1) := by decide +kernel
theorem d_Lw_law_242 : decode code 242 = .ok (.iaload, 1) := by decide +kernel
theorem d_Lw_law_243 : decode code 243 = .ok (.invokevirtual 18, 3) := by decide +kernel
theorem d_Lw_law_246 : decode code 246 = .ok (.aload_n 2, 1) := by decide +kernel
theorem d_Lw_law_247 : decode code 247 = .ok (.aload_n 0, 1) := by decide +kernel
theorem d_Lw_law_248 : decode code 248 = .ok (.iload_n 3, 1) := by decide +kernel
theorem d_Lw_law_249 : decode code 249 = .ok (.iconst 1, 1) := by decide +kernel
theorem d_Lw_law_250 : decode code 250 = .ok (.iadd, 1) := by decide +kernel
theorem d_Lw_law_251 : decode code 251 = .ok (.iaload, 1) := by decide +kernel
theorem d_Lw_law_252 : decode code 252 = .ok (.aload_n 0, 1) := by decide +kernel
theorem d_Lw_law_253 : decode code 253 = .ok (.iload_n 3, 1) := by decide +kernel
theorem d_Lw_law_254 : decode code 254 = .ok (.iconst 2, 1) := by decide +kernel
theorem d_Lw_law_255 : decode code 255 = .ok (.iadd, 1) := by decide +kernel
theorem d_Lw_law_256 : decode code 256 = .ok (.iaload, 1) := by decide +kernel
theorem d_Lw_law_257 : decode code 257 = .ok (.aload_n 0, 1) := by decide +kernel
theorem d_Lw_law_258 : decode code 258 = .ok (.iload_n 3, 1) := by decide +kernel
theorem d_Lw_law_259 : decode code 259 = .ok (.iconst 3, 1) := by decide +kernel
theorem d_Lw_law_260 : decode code 260 = .ok (.iadd, 1) := by decide +kernel
theorem d_Lw_law_261 : decode code 261 = .ok (.iaload, 1) := by decide +kernel
theorem d_Lw_law_262 : decode code 262 = .ok (.invokevirtual 22, 3) := by decide +kernel
theorem d_Lw_law_265 : decode code 265 = .ok (.if_icmp .eq 1152, 3) := by decide +kernel
theorem d_Lw_law_268 : decode code 268 = .ok (.iconst 0, 1) := by decide +kernel
theorem d_Lw_law_269 : decode code 269 = .ok (.ireturn, 1) := by decide +kernel
theorem d_Lw_law_270 : decode code 270 = .ok (.aload_n 1, 1) := by decide +kernel
theorem d_Lw_law_271 : decode code 271 = .ok (.aload_n 0, 1) := by decide +kernel
theorem d_Lw_law_272 : decode code 272 = .ok (.iload_n 3, 1) := by decide +kernel
theorem d_Lw_law_273 : decode code 273 = .ok (.iconst 1, 1) := by decide +kernel
theorem d_Lw_law_274 : decode code 274 = .ok (.iadd, 1) := by decide +kernel
theorem d_Lw_law_275 : decode code 275 = .ok (.iaload, 1) := by decide +kernel
theorem d_Lw_law_276 : decode code 276 = .ok (.aload_n 0, 1) := by decide +kernel
theorem d_Lw_law_277 : decode code 277 = .ok (.iload_n 3, 1) := by decide +kernel
theorem d_Lw_law_278 : decode code 278 = .ok (.iconst 2, 1) := by decide +kernel
theorem d_Lw_law_279 : decode code 279 = .ok (.iadd, 1) := by decide +kernel
theorem d_Lw_law_280 : decode code 280 = .ok (.iaload, 1) := by decide +kernel
theorem d_Lw_law_281 : decode code 281 = .ok (.aload_n 0, 1) := by decide +kernel
theorem d_Lw_law_282 : decode code 282 = .ok (.iload_n 3, 1) := by decide +kernel
theorem d_Lw_law_283 : decode code 283 = .ok (.iconst 3, 1) := by decide +kernel
theorem d_Lw_law_284 : decode code 284 = .ok (.iadd, 1) := by decide +kernel
theorem d_Lw_law_285 : decode code 285 = .ok (.iaload, 1) := by decide +kernel
theorem d_Lw_law_286 : decode code 286 = .ok (.invokevirtual 23, 3) := by decide +kernel
theorem d_Lw_law_289 : decode code 289 = .ok (.aload_n 2, 1) := by decide +kernel
theorem d_Lw_law_290 : decode code 290 = .ok (.aload_n 0, 1) := by decide +kernel
theorem d_Lw_law_291 : decode code 291 = .ok (.iload_n 3, 1) := by decide +kernel
theorem d_Lw_law_292 : decode code 292 = .ok (.iconst 1, 1) := by decide +kernel
theorem d_Lw_law_293 : decode code 293 = .ok (.iadd, 1) := by decide +kernel
theorem d_Lw_law_294 : decode code 294 = .ok (.iaload, 1) := by decide +kernel
theorem d_Lw_law_295 : decode code 295 = .ok (.aload_n 0, 1) := by decide +kernel
theorem d_Lw_law_296 : decode code 296 = .ok (.iload_n 3, 1) := by decide +kernel
theorem d_Lw_law_297 : decode code 297 = .ok (.iconst 2, 1) := by decide +kernel
theorem d_Lw_law_298 : decode code 298 = .ok (.iadd, 1) := by decide +kernel
theorem d_Lw_law_299 : decode code 299 = .ok (.iaload, 1) := by decide +kernel
theorem d_Lw_law_300 : decode code 300 = .ok (.aload_n 0, 1) := by decide +kernel
theorem d_Lw_law_301 : decode code 301 = .ok (.iload_n 3, 1) := by decide +kernel
theorem d_Lw_law_302 : decode code 302 = .ok (.iconst 3, 1) := by decide +kernel
theorem d_Lw_law_303 : decode code 303 = .ok (.iadd, 1) := by decide +kernel
theorem d_Lw_law_304 : decode code 304 = .ok (.iaload, 1) := by decide +kernel
theorem d_Lw_law_305 : decode code 305 = .ok (.invokevirtual 26, 3) := by decide +kernel
theorem d_Lw_law_308 : decode code 308 = .ok (.if_icmp .eq 1109, 3) := by decide +kernel
theorem d_Lw_law_311 : decode code 311 = .ok (.iconst 0, 1) := by decide +kernel
theorem d_Lw_law_312 : decode code 312 = .ok (.ireturn, 1) := by decide +kernel
theorem d_Lw_law_313 : decode code 313 = .ok (.aload_n 1, 1) := by decide +kernel
theorem d_Lw_law_314 : decode code 314 = .ok (.aload_n 0, 1) := by decide +kernel
theorem d_Lw_law_315 : decode code 315 = .ok (.iload_n 3, 1) := by decide +kernel
theorem d_Lw_law_316 : decode code 316 = .ok (.iconst 1, 1) := by decide +kernel
theorem d_Lw_law_317 : decode code 317 = .ok (.iadd, 1) := by decide +kernel
theorem d_Lw_law_318 : decode code 318 = .ok (.iaload, 1) := by decide +kernel
theorem d_Lw_law_319 : decode code 319 = .ok (.aload_n 0, 1) := by decide +kernel
theorem d_Lw_law_320 : decode code 320 = .ok (.iload_n 3, 1) := by decide +kernel
theorem d_Lw_law_321 : decode code 321 = .ok (.iconst 2, 1) := by decide +kernel
theorem d_Lw_law_322 : decode code 322 = .ok (.iadd, 1) := by decide +kernel
theorem d_Lw_law_323 : decode code 323 = .ok (.iaload, 1) := by decide +kernel
theorem d_Lw_law_324 : decode code 324 = .ok (.aload_n 0, 1) := by decide +kernel
theorem d_Lw_law_325 : decode code 325 = .ok (.iload_n 3, 1) := by decide +kernel
theorem d_Lw_law_326 : decode code 326 = .ok (.iconst 3, 1) := by decide +kernel
theorem d_Lw_law_327 : decode code 327 = .ok (.iadd, 1) := by decide +kernel
theorem d_Lw_law_328 : decode code 328 = .ok (.iaload, 1) := by decide +kernel
theorem d_Lw_law_329 : decode code 329 = .ok (.invokevirtual 27, 3) := by decide +kernel
theorem d_Lw_law_332 : decode code 332 = .ok (.aload_n 2, 1) := by decide +kernel
theorem d_Lw_law_333 : decode code 333 = .ok (.aload_n 0, 1) := by decide +kernel
theorem d_Lw_law_334 : decode code 334 = .ok (.iload_n 3, 1) := by decide +kernel
theorem d_Lw_law_335 : decode code 335 = .ok (.iconst 1, 1) := by decide +kernel
theorem d_Lw_law_336 : decode code 336 = .ok (.iadd, 1) := by decide +kernel
theorem d_Lw_law_337 : decode code 337 = .ok (.iaload, 1) := by decide +kernel
theorem d_Lw_law_338 : decode code 338 = .ok (.aload_n 0, 1) := by decide +kernel
theorem d_Lw_law_339 : decode code 339 = .ok (.iload_n 3, 1) := by decide +kernel
theorem d_Lw_law_340 : decode code 340 = .ok (.iconst 2, 1) := by decide +kernel
theorem d_Lw_law_341 : decode code 341 = .ok (.iadd, 1) := by decide +kernel
theorem d_Lw_law_342 : decode code 342 = .ok (.iaload, 1) := by decide +kernel
theorem d_Lw_law_343 : decode code 343 = .ok (.aload_n 0, 1) := by decide +kernel
theorem d_Lw_law_344 : decode code 344 = .ok (.iload_n 3, 1) := by decide +kernel
theorem d_Lw_law_345 : decode code 345 = .ok (.iconst 3, 1) := by decide +kernel
theorem d_Lw_law_346 : decode code 346 = .ok (.iadd, 1) := by decide +kernel
theorem d_Lw_law_347 : decode code 347 = .ok (.iaload, 1) := by decide +kernel
theorem d_Lw_law_348 : decode code 348 = .ok (.invokevirtual 31, 3) := by decide +kernel
theorem d_Lw_law_351 : decode code 351 = .ok (.if_icmp .eq 1066, 3) := by decide +kernel
theorem d_Lw_law_354 : decode code 354 = .ok (.iconst 0, 1) := by decide +kernel
theorem d_Lw_law_355 : decode code 355 = .ok (.ireturn, 1) := by decide +kernel
theorem d_Lw_law_356 : decode code 356 = .ok (.aload_n 1, 1) := by decide +kernel
theorem d_Lw_law_357 : decode code 357 = .ok (.aload_n 0, 1) := by decide +kernel
theorem d_Lw_law_358 : decode code 358 = .ok (.iload_n 3, 1) := by decide +kernel
theorem d_Lw_law_359 : decode code 359 = .ok (.iconst 1, 1) := by decide +kernel
theorem d_Lw_law_360 : decode code 360 = .ok (.iadd, 1) := by decide +kernel
theorem d_Lw_law_361 : decode code 361 = .ok (.iaload, 1) := by decide +kernel
theorem d_Lw_law_362 : decode code 362 = .ok (.aload_n 0, 1) := by decide +kernel
theorem d_Lw_law_363 : decode code 363 = .ok (.iload_n 3, 1) := by decide +kernel
theorem d_Lw_law_364 : decode code 364 = .ok (.iconst 2, 1) := by decide +kernel
theorem d_Lw_law_365 : decode code 365 = .ok (.iadd, 1) := by decide +kernel
theorem d_Lw_law_366 : decode code 366 = .ok (.iaload, 1) := by decide +kernel
theorem d_Lw_law_367 : decode code 367 = .ok (.aload_n 0, 1) := by decide +kernel
theorem d_Lw_law_368 : decode code 368 = .ok (.iload_n 3, 1) := by decide +kernel
theorem d_Lw_law_369 : decode code 369 = .ok (.iconst 3, 1) := by decide +kernel
theorem d_Lw_law_370 : decode code 370 = .ok (.iadd, 1) := by decide +kernel
theorem d_Lw_law_371 : decode code 371 = .ok (.iaload, 1) := by decide +kernel
theorem d_Lw_law_372 : decode code 372 = .ok (.invokevirtual 32, 3) := by decide +kernel
theorem d_Lw_law_375 : decode code 375 = .ok (.aload_n 2, 1) := by decide +kernel
theorem d_Lw_law_376 : decode code 376 = .ok (.aload_n 0, 1) := by decide +kernel
theorem d_Lw_law_377 : decode code 377 = .ok (.iload_n 3, 1) := by decide +kernel
theorem d_Lw_law_378 : decode code 378 = .ok (.iconst 1, 1) := by decide +kernel
theorem d_Lw_law_379 : decode code 379 = .ok (.iadd, 1) := by decide +kernel
theorem d_Lw_law_380 : decode code 380 = .ok (.iaload, 1) := by decide +kernel
theorem d_Lw_law_381 : decode code 381 = .ok (.aload_n 0, 1) := by decide +kernel
theorem d_Lw_law_382 : decode code 382 = .ok (.iload_n 3, 1) := by decide +kernel
theorem d_Lw_law_383 : decode code 383 = .ok (.iconst 2, 1) := by decide +kernel
theorem d_Lw_law_384 : decode code 384 = .ok (.iadd, 1) := by decide +kernel
theorem d_Lw_law_385 : decode code 385 = .ok (.iaload, 1) := by decide +kernel
theorem d_Lw_law_386 : decode code 386 = .ok (.aload_n 0, 1) := by decide +kernel
theorem d_Lw_law_387 : decode code 387 = .ok (.iload_n 3, 1) := by decide +kernel
theorem d_Lw_law_388 : decode code 388 = .ok (.iconst 3, 1) := by decide +kernel
theorem d_Lw_law_389 : decode code 389 = .ok (.iadd, 1) := by decide +kernel
theorem d_Lw_law_390 : decode code 390 = .ok (.iaload, 1) := by decide +kernel
theorem d_Lw_law_391 : decode code 391 = .ok (.invokevirtual 35, 3) := by decide +kernel
theorem d_Lw_law_394 : decode code 394 = .ok (.if_icmp .eq 1023, 3) := by decide +kernel
theorem d_Lw_law_397 : decode code 397 = .ok (.iconst 0, 1) := by decide +kernel
theorem d_Lw_law_398 : decode code 398 = .ok (.ireturn, 1) := by decide +kernel
theorem d_Lw_law_399 : decode code 399 = .ok (.aload_n 1, 1) := by decide +kernel
theorem d_Lw_law_400 : decode code 400 = .ok (.aload_n 0, 1) := by decide +kernel
theorem d_Lw_law_401 : decode code 401 = .ok (.iload_n 3, 1) := by decide +kernel
theorem d_Lw_law_402 : decode code 402 = .ok (.iconst 1, 1) := by decide +kernel
theorem d_Lw_law_403 : decode code 403 = .ok (.iadd, 1) := by decide +kernel
theorem d_Lw_law_404 : decode code 404 = .ok (.iaload, 1) := by decide +kernel
theorem d_Lw_law_405 : decode code 405 = .ok (.aload_n 0, 1) := by decide +kernel
theorem d_Lw_law_406 : decode code 406 = .ok (.iload_n 3, 1) := by decide +kernel
theorem d_Lw_law_407 : decode code 407 = .ok (.iconst 2, 1) := by decide +kernel
theorem d_Lw_law_408 : decode code 408 = .ok (.iadd, 1) := by decide +kernel
theorem d_Lw_law_409 : decode code 409 = .ok (.iaload, 1) := by decide +kernel
theorem d_Lw_law_410 : decode code 410 = .ok (.invokevirtual 36, 3) := by decide +kernel
theorem d_Lw_law_413 : decode code 413 = .ok (.aload_n 2, 1) := by decide +kernel
theorem d_Lw_law_414 : decode code 414 = .ok (.aload_n 0, 1) := by decide +kernel
theorem d_Lw_law_415 : decode code 415 = .ok (.iload_n 3, 1) := by decide +kernel
theorem d_Lw_law_416 : decode code 416 = .ok (.iconst 1, 1) := by decide +kernel
theorem d_Lw_law_417 : decode code 417 = .ok (.iadd, 1) := by decide +kernel
theorem d_Lw_law_418 : decode code 418 = .ok (.iaload, 1) := by decide +kernel
theorem d_Lw_law_419 : decode code 419 = .ok (.aload_n 0, 1) := by decide +kernel
theorem d_Lw_law_420 : decode code 420 = .ok (.iload_n 3, 1) := by decide +kernel
theorem d_Lw_law_421 : decode code 421 = .ok (.iconst 2, 1) := by decide +kernel
theorem d_Lw_law_422 : decode code 422 = .ok (.iadd, 1) := by decide +kernel
theorem d_Lw_law_423 : decode code 423 = .ok (.iaload, 1) := by decide +kernel
theorem d_Lw_law_424 : decode code 424 = .ok (.invokevirtual 40, 3) := by decide +kernel
theorem d_Lw_law_427 : decode code 427 = .ok (.if_icmp .eq 990, 3) := by decide +kernel
theorem d_Lw_law_430 : decode code 430 = .ok (.iconst 0, 1) := by decide +kernel
theorem d_Lw_law_431 : decode code 431 = .ok (.ireturn, 1) := by decide +kernel
theorem d_Lw_law_432 : decode code 432 = .ok (.aload_n 1, 1) := by decide +kernel
theorem d_Lw_law_433 : decode code 433 = .ok (.aload_n 0, 1) := by decide +kernel
theorem d_Lw_law_434 : decode code 434 = .ok (.iload_n 3, 1) := by decide +kernel
theorem d_Lw_law_435 : decode code 435 = .ok (.iconst 1, 1) := by decide +kernel
theorem d_Lw_law_436 : decode code 436 = .ok (.iadd, 1) := by decide +kernel
theorem d_Lw_law_437 : decode code 437 = .ok (.iaload, 1) := by decide +kernel
theorem d_Lw_law_438 : decode code 438 = .ok (.invokevirtual 41, 3) := by decide +kernel
theorem d_Lw_law_441 : decode code 441 = .ok (.aload_n 2, 1) := by decide +kernel
theorem d_Lw_law_442 : decode code 442 = .ok (.aload_n 0, 1) := by decide +kernel
theorem d_Lw_law_443 : decode code 443 = .ok (.iload_n 3, 1) := by decide +kernel
theorem d_Lw_law_444 : decode code 444 = .ok (.iconst 1, 1) := by decide +kernel
theorem d_Lw_law_445 : decode code 445 = .ok (.iadd, 1) := by decide +kernel
theorem d_Lw_law_446 : decode code 446 = .ok (.iaload, 1) := by decide +kernel
theorem d_Lw_law_447 : decode code 447 = .ok (.invokevirtual 44, 3) := by decide +kernel
theorem d_Lw_law_450 : decode code 450 = .ok (.if_icmp .eq 967, 3) := by decide +kernel
theorem d_Lw_law_453 : decode code 453 = .ok (.iconst 0, 1) := by decide +kernel
theorem d_Lw_law_454 : decode code 454 = .ok (.ireturn, 1) := by decide +kernel
theorem d_Lw_law_455 : decode code 455 = .ok (.aload_n 1, 1) := by decide +kernel
theorem d_Lw_law_456 : decode code 456 = .ok (.aload_n 0, 1) := by decide +kernel
theorem d_Lw_law_457 : decode code 457 = .ok (.iload_n 3, 1) := by decide +kernel
theorem d_Lw_law_458 : decode code 458 = .ok (.iconst 1, 1) := by decide +kernel
theorem d_Lw_law_459 : decode code 459 = .ok (.iadd, 1) := by decide +kernel
theorem d_Lw_law_460 : decode code 460 = .ok (.iaload, 1) := by decide +kernel
theorem d_Lw_law_461 : decode code 461 = .ok (.aload_n 0, 1) := by decide +kernel
theorem d_Lw_law_462 : decode code 462 = .ok (.iload_n 3, 1) := by decide +kernel
theorem d_Lw_law_463 : decode code 463 = .ok (.iconst 2, 1) := by decide +kernel
theorem d_Lw_law_464 : decode code 464 = .ok (.iadd, 1) := by decide +kernel
theorem d_Lw_law_465 : decode code 465 = .ok (.iaload, 1) := by decide +kernel
theorem d_Lw_law_466 : decode code 466 = .ok (.aload_n 0, 1) := by decide +kernel
theorem d_Lw_law_467 : decode code 467 = .ok (.iload_n 3, 1) := by decide +kernel
theorem d_Lw_law_468 : decode code 468 = .ok (.iconst 3, 1) := by decide +kernel
theorem d_Lw_law_469 : decode code 469 = .ok (.iadd, 1) := by decide +kernel
theorem d_Lw_law_470 : decode code 470 = .ok (.iaload, 1) := by decide +kernel
theorem d_Lw_law_471 : decode code 471 = .ok (.aload_n 0, 1) := by decide +kernel
theorem d_Lw_law_472 : decode code 472 = .ok (.iload_n 3, 1) := by decide +kernel
theorem d_Lw_law_473 : decode code 473 = .ok (.iconst 4, 1) := by decide +kernel
theorem d_Lw_law_474 : decode code 474 = .ok (.iadd, 1) := by decide +kernel
theorem d_Lw_law_475 : decode code 475 = .ok (.iaload, 1) := by decide +kernel
theorem d_Lw_law_476 : decode code 476 = .ok (.aload_n 0, 1) := by decide +kernel
theorem d_Lw_law_477 : decode code 477 = .ok (.iload_n 3, 1) := by decide +kernel
theorem d_Lw_law_478 : decode code 478 = .ok (.iconst 5, 1) := by decide +kernel
theorem d_Lw_law_479 : decode code 479 = .ok (.iadd, 1) := by decide +kernel
theorem d_Lw_law_480 : decode code 480 = .ok (.iaload, 1) := by decide +kernel
theorem d_Lw_law_481 : decode code 481 = .ok (.invokevirtual 45, 3) := by decide +kernel
theorem d_Lw_law_484 : decode code 484 = .ok (.aload_n 2, 1) := by decide +kernel
theorem d_Lw_law_485 : decode code 485 = .ok (.aload_n 0, 1) := by decide +kernel
theorem d_Lw_law_486 : decode code 486 = .ok (.iload_n 3, 1) := by decide +kernel
theorem d_Lw_law_487 : decode code 487 = .ok (.iconst 1, 1) := by decide +kernel
theorem d_Lw_law_488 : decode code 488 = .ok (.iadd, 1) := by decide +kernel
theorem d_Lw_law_489 : decode code 489 = .ok (.iaload, 1) := by decide +kernel
theorem d_Lw_law_490 : decode code 490 = .ok (.aload_n 0, 1) := by decide +kernel
theorem d_Lw_law_491 : decode code 491 = .ok (.iload_n 3, 1) := by decide +kernel
theorem d_Lw_law_492 : decode code 492 = .ok (.iconst 2, 1) := by decide +kernel
theorem d_Lw_law_493 : decode code 493 = .ok (.iadd, 1) := by decide +kernel
theorem d_Lw_law_494 : decode code 494 = .ok (.iaload, 1) := by decide +kernel
theorem d_Lw_law_495 : decode code 495 = .ok (.aload_n 0, 1) := by decide +kernel
theorem d_Lw_law_496 : decode code 496 = .ok (.iload_n 3, 1) := by decide +kernel
theorem d_Lw_law_497 : decode code 497 = .ok (.iconst 3, 1) := by decide +kernel
theorem d_Lw_law_498 : decode code 498 = .ok (.iadd, 1) := by decide +kernel
theorem d_Lw_law_499 : decode code 499 = .ok (.iaload, 1) := by decide +kernel
theorem d_Lw_law_500 : decode code 500 = .ok (.aload_n 0, 1) := by decide +kernel
theorem d_Lw_law_501 : decode code 501 = .ok (.iload_n 3, 1) := by decide +kernel
theorem d_Lw_law_502 : decode code 502 = .ok (.iconst 4, 1) := by decide +kernel
theorem d_Lw_law_503 : decode code 503 = .ok (.iadd, 1) := by decide +kernel
theorem d_Lw_law_504 : decode code 504 = .ok (.iaload, 1) := by decide +kernel
theorem d_Lw_law_505 : decode code 505 = .ok (.aload_n 0, 1) := by decide +kernel
theorem d_Lw_law_506 : decode code 506 = .ok (.iload_n 3, 1) := by decide +kernel
theorem d_Lw_law_507 : decode code 507 = .ok (.iconst 5, 1) := by decide +kernel
theorem d_Lw_law_508 : decode code 508 = .ok (.iadd, 1) := by decide +kernel
theorem d_Lw_law_509 : decode code 509 = .ok (.iaload, 1) := by decide +kernel
theorem d_Lw_law_510 : decode code 510 = .ok (.invokevirtual 49, 3) := by decide +kernel
theorem d_Lw_law_513 : decode code 513 = .ok (.if_icmp .eq 904, 3) := by decide +kernel
theorem d_Lw_law_516 : decode code 516 = .ok (.iconst 0, 1) := by decide +kernel
theorem d_Lw_law_517 : decode code 517 = .ok (.ireturn, 1) := by decide +kernel
theorem d_Lw_law_518 : decode code 518 = .ok (.aload_n 1, 1) := by decide +kernel
theorem d_Lw_law_519 : decode code 519 = .ok (.aload_n 0, 1) := by decide +kernel
theorem d_Lw_law_520 : decode code 520 = .ok (.iload_n 3, 1) := by decide +kernel
theorem d_Lw_law_521 : decode code 521 = .ok (.iconst 1, 1) := by decide +kernel
theorem d_Lw_law_522 : decode code 522 = .ok (.iadd, 1) := by decide +kernel
theorem d_Lw_law_523 : decode code 523 = .ok (.iaload, 1) := by decide +kernel
theorem d_Lw_law_524 : decode code 524 = .ok (.invokevirtual 50, 3) := by decide +kernel
theorem d_Lw_law_527 : decode code 527 = .ok (.aload_n 2, 1) := by decide +kernel
theorem d_Lw_law_528 : decode code 528 = .ok (.aload_n 0, 1) := by decide +kernel
theorem d_Lw_law_529 : decode code 529 = .ok (.iload_n 3, 1) := by decide +kernel
theorem d_Lw_law_530 : decode code 530 = .ok (.iconst 1, 1) := by decide +kernel
theorem d_Lw_law_531 : decode code 531 = .ok (.iadd, 1) := by decide +kernel
theorem d_Lw_law_532 : decode code 532 = .ok (.iaload, 1) := by decide +kernel
theorem d_Lw_law_533 : decode code 533 = .ok (.invokevirtual 54, 3) := by decide +kernel
theorem d_Lw_law_536 : decode code 536 = .ok (.if_icmp .eq 881, 3) := by decide +kernel
theorem d_Lw_law_539 : decode code 539 = .ok (.iconst 0, 1) := by decide +kernel
theorem d_Lw_law_540 : decode code 540 = .ok (.ireturn, 1) := by decide +kernel
theorem d_Lw_law_541 : decode code 541 = .ok (.aload_n 1, 1) := by decide +kernel
theorem d_Lw_law_542 : decode code 542 = .ok (.aload_n 0, 1) := by decide +kernel
theorem d_Lw_law_543 : decode code 543 = .ok (.iload_n 3, 1) := by decide +kernel
theorem d_Lw_law_544 : decode code 544 = .ok (.iconst 1, 1) := by decide +kernel
theorem d_Lw_law_545 : decode code 545 = .ok (.iadd, 1) := by decide +kernel
theorem d_Lw_law_546 : decode code 546 = .ok (.iaload, 1) := by decide +kernel
theorem d_Lw_law_547 : decode code 547 = .ok (.invokevirtual 55, 3) := by decide +kernel
theorem d_Lw_law_550 : decode code 550 = .ok (.aload_n 2, 1) := by decide +kernel
theorem d_Lw_law_551 : decode code 551 = .ok (.aload_n 0, 1) := by decide +kernel
theorem d_Lw_law_552 : decode code 552 = .ok (.iload_n 3, 1) := by decide +kernel
theorem d_Lw_law_553 : decode code 553 = .ok (.iconst 1, 1) := by decide +kernel
theorem d_Lw_law_554 : decode code 554 = .ok (.iadd, 1) := by decide +kernel
theorem d_Lw_law_555 : decode code 555 = .ok (.iaload, 1) := by decide +kernel
theorem d_Lw_law_556 : decode code 556 = .ok (.invokevirtual 58, 3) := by decide +kernel
theorem d_Lw_law_559 : decode code 559 = .ok (.if_icmp .eq 858, 3) := by decide +kernel
theorem d_Lw_law_562 : decode code 562 = .ok (.iconst 0, 1) := by decide +kernel
theorem d_Lw_law_563 : decode code 563 = .ok (.ireturn, 1) := by decide +kernel
theorem d_Lw_law_564 : decode code 564 = .ok (.aload_n 1, 1) := by decide +kernel
theorem d_Lw_law_565 : decode code 565 = .ok (.aload_n 0, 1) := by decide +kernel
theorem d_Lw_law_566 : decode code 566 = .ok (.iload_n 3, 1) := by decide +kernel
theorem d_Lw_law_567 : decode code 567 = .ok (.iconst 1, 1) := by decide +kernel
theorem d_Lw_law_568 : decode code 568 = .ok (.iadd, 1) := by decide +kernel
theorem d_Lw_law_569 : decode code 569 = .ok (.iaload, 1) := by decide +kernel
theorem d_Lw_law_570 : decode code 570 = .ok (.invokevirtual 59, 3) := by decide +kernel
theorem d_Lw_law_573 : decode code 573 = .ok (.aload_n 2, 1) := by decide +kernel
theorem d_Lw_law_574 : decode code 574 = .ok (.aload_n 0, 1) := by decide +kernel
theorem d_Lw_law_575 : decode code 575 = .ok (.iload_n 3, 1) := by decide +kernel
theorem d_Lw_law_576 : decode code 576 = .ok (.iconst 1, 1) := by decide +kernel
theorem d_Lw_law_577 : decode code 577 = .ok (.iadd, 1) := by decide +kernel
theorem d_Lw_law_578 : decode code 578 = .ok (.iaload, 1) := by decide +kernel
theorem d_Lw_law_579 : decode code 579 = .ok (.invokevirtual 62, 3) := by decide +kernel
theorem d_Lw_law_582 : decode code 582 = .ok (.if_icmp .eq 835, 3) := by decide +kernel
theorem d_Lw_law_585 : decode code 585 = .ok (.iconst 0, 1) := by decide +kernel
theorem d_Lw_law_586 : decode code 586 = .ok (.ireturn, 1) := by decide +kernel
theorem d_Lw_law_587 : decode code 587 = .ok (.aload_n 1, 1) := by decide +kernel
theorem d_Lw_law_588 : decode code 588 = .ok (.aload_n 0, 1) := by decide +kernel
theorem d_Lw_law_589 : decode code 589 = .ok (.iload_n 3, 1) := by decide +kernel
theorem d_Lw_law_590 : decode code 590 = .ok (.iconst 1, 1) := by decide +kernel
theorem d_Lw_law_591 : decode code 591 = .ok (.iadd, 1) := by decide +kernel
theorem d_Lw_law_592 : decode code 592 = .ok (.iaload, 1) := by decide +kernel
theorem d_Lw_law_593 : decode code 593 = .ok (.aload_n 0, 1) := by decide +kernel
theorem d_Lw_law_594 : decode code 594 = .ok (.iload_n 3, 1) := by decide +kernel
theorem d_Lw_law_595 : decode code 595 = .ok (.iconst 2, 1) := by decide +kernel
theorem d_Lw_law_596 : decode code 596 = .ok (.iadd, 1) := by decide +kernel
theorem d_Lw_law_597 : decode code 597 = .ok (.iaload, 1) := by decide +kernel
theorem d_Lw_law_598 : decode code 598 = .ok (.invokevirtual 63, 3) := by decide +kernel
theorem d_Lw_law_601 : decode code 601 = .ok (.aload_n 2, 1) := by decide +kernel
theorem d_Lw_law_602 : decode code 602 = .ok (.aload_n 0, 1) := by decide +kernel
theorem d_Lw_law_603 : decode code 603 = .ok (.iload_n 3, 1) := by decide +kernel
theorem d_Lw_law_604 : decode code 604 = .ok (.iconst 1, 1) := by decide +kernel
theorem d_Lw_law_605 : decode code 605 = .ok (.iadd, 1) := by decide +kernel
theorem d_Lw_law_606 : decode code 606 = .ok (.iaload, 1) := by decide +kernel
theorem d_Lw_law_607 : decode code 607 = .ok (.aload_n 0, 1) := by decide +kernel
theorem d_Lw_law_608 : decode code 608 = .ok (.iload_n 3, 1) := by decide +kernel
theorem d_Lw_law_609 : decode code 609 = .ok (.iconst 2, 1) := by decide +kernel
theorem d_Lw_law_610 : decode code 610 = .ok (.iadd, 1) := by decide +kernel
theorem d_Lw_law_611 : decode code 611 = .ok (.iaload, 1) := by decide +kernel
theorem d_Lw_law_612 : decode code 612 = .ok (.invokevirtual 66, 3) := by decide +kernel
theorem d_Lw_law_615 : decode code 615 = .ok (.if_icmp .eq 802, 3) := by decide +kernel
theorem d_Lw_law_618 : decode code 618 = .ok (.iconst 0, 1) := by decide +kernel
theorem d_Lw_law_619 : decode code 619 = .ok (.ireturn, 1) := by decide +kernel
theorem d_Lw_law_620 : decode code 620 = .ok (.aload_n 1, 1) := by decide +kernel
theorem d_Lw_law_621 : decode code 621 = .ok (.aload_n 0, 1) := by decide +kernel
theorem d_Lw_law_622 : decode code 622 = .ok (.iload_n 3, 1) := by decide +kernel
theorem d_Lw_law_623 : decode code 623 = .ok (.iconst 1, 1) := by decide +kernel
theorem d_Lw_law_624 : decode code 624 = .ok (.iadd, 1) := by decide +kernel
theorem d_Lw_law_625 : decode code 625 = .ok (.iaload, 1) := by decide +kernel
theorem d_Lw_law_626 : decode code 626 = .ok (.aload_n 0, 1) := by decide +kernel
theorem d_Lw_law_627 : decode code 627 = .ok (.iload_n 3, 1) := by decide +kernel
theorem d_Lw_law_628 : decode code 628 = .ok (.iconst 2, 1) := by decide +kernel
theorem d_Lw_law_629 : decode code 629 = .ok (.iadd, 1) := by decide +kernel
theorem d_Lw_law_630 : decode code 630 = .ok (.iaload, 1) := by decide +kernel
theorem d_Lw_law_631 : decode code 631 = .ok (.invokevirtual 67, 3) := by decide +kernel
theorem d_Lw_law_634 : decode code 634 = .ok (.aload_n 2, 1) := by decide +kernel
theorem d_Lw_law_635 : decode code 635 = .ok (.aload_n 0, 1) := by decide +kernel
theorem d_Lw_law_636 : decode code 636 = .ok (.iload_n 3, 1) := by decide +kernel
theorem d_Lw_law_637 : decode code 637 = .ok (.iconst 1, 1) := by decide +kernel
theorem d_Lw_law_638 : decode code 638 = .ok (.iadd, 1) := by decide +kernel
theorem d_Lw_law_639 : decode code 639 = .ok (.iaload, 1) := by decide +kernel
theorem d_Lw_law_640 : decode code 640 = .ok (.aload_n 0, 1) := by decide +kernel
theorem d_Lw_law_641 : decode code 641 = .ok (.iload_n 3, 1) := by decide +kernel
theorem d_Lw_law_642 : decode code 642 = .ok (.iconst 2, 1) := by decide +kernel
theorem d_Lw_law_643 : decode code 643 = .ok (.iadd, 1) := by decide +kernel
theorem d_Lw_law_644 : decode code 644 = .ok (.iaload, 1) := by decide +kernel
theorem d_Lw_law_645 : decode code 645 = .ok (.invokevirtual 70, 3) := by decide +kernel
theorem d_Lw_law_648 : decode code 648 = .ok (.if_icmp .eq 769, 3) := by decide +kernel
theorem d_Lw_law_651 : decode code 651 = .ok (.iconst 0, 1) := by decide +kernel
theorem d_Lw_law_652 : decode code 652 = .ok (.ireturn, 1) := by decide +kernel
theorem d_Lw_law_653 : decode code 653 = .ok (.aload_n 1, 1) := by decide +kernel
theorem d_Lw_law_654 : decode code 654 = .ok (.aload_n 0, 1) := by decide +kernel
theorem d_Lw_law_655 : decode code 655 = .ok (.iload_n 3, 1) := by decide +kernel
theorem d_Lw_law_656 : decode code 656 = .ok (.iconst 1, 1) := by decide +kernel
theorem d_Lw_law_657 : decode code 657 = .ok (.iadd, 1) := by decide +kernel
theorem d_Lw_law_658 : decode code 658 = .ok (.iaload, 1) := by decide +kernel
theorem d_Lw_law_659 : decode code 659 = .ok (.aload_n 0, 1) := by decide +kernel
theorem d_Lw_law_660 : decode code 660 = .ok (.iload_n 3, 1) := by decide +kernel
theorem d_Lw_law_661 : decode code 661 = .ok (.iconst 2, 1) := by decide +kernel
theorem d_Lw_law_662 : decode code 662 = .ok (.iadd, 1) := by decide +kernel
theorem d_Lw_law_663 : decode code 663 = .ok (.iaload, 1) := by decide +kernel
theorem d_Lw_law_664 : decode code 664 = .ok (.invokevirtual 71, 3) := by decide +kernel
theorem d_Lw_law_667 : decode code 667 = .ok (.aload_n 2, 1) := by decide +kernel
theorem d_Lw_law_668 : decode code 668 = .ok (.aload_n 0, 1) := by decide +kernel
theorem d_Lw_law_669 : decode code 669 = .ok (.iload_n 3, 1) := by decide +kernel
theorem d_Lw_law_670 : decode code 670 = .ok (.iconst 1, 1) := by decide +kernel
theorem d_Lw_law_671 : decode code 671 = .ok (.iadd, 1) := by decide +kernel
theorem d_Lw_law_672 : decode code 672 = .ok (.iaload, 1) := by decide +kernel
theorem d_Lw_law_673 : decode code 673 = .ok (.aload_n 0, 1) := by decide +kernel
theorem d_Lw_law_674 : decode code 674 = .ok (.iload_n 3, 1) := by decide +kernel
theorem d_Lw_law_675 : decode code 675 = .ok (.iconst 2, 1) := by decide +kernel
theorem d_Lw_law_676 : decode code 676 = .ok (.iadd, 1) := by decide +kernel
theorem d_Lw_law_677 : decode code 677 = .ok (.iaload, 1) := by decide +kernel
theorem d_Lw_law_678 : decode code 678 = .ok (.invokevirtual 74, 3) := by decide +kernel
theorem d_Lw_law_681 : decode code 681 = .ok (.if_icmp .eq 736, 3) := by decide +kernel
theorem d_Lw_law_684 : decode code 684 = .ok (.iconst 0, 1) := by decide +kernel
theorem d_Lw_law_685 : decode code 685 = .ok (.ireturn, 1) := by decide +kernel
theorem d_Lw_law_686 : decode code 686 = .ok (.aload_n 1, 1) := by decide +kernel
theorem d_Lw_law_687 : decode code 687 = .ok (.aload_n 0, 1) := by decide +kernel
theorem d_Lw_law_688 : decode code 688 = .ok (.iload_n 3, 1) := by decide +kernel
theorem d_Lw_law_689 : decode code 689 = .ok (.iconst 1, 1) := by decide +kernel
theorem d_Lw_law_690 : decode code 690 = .ok (.iadd, 1) := by decide +kernel
theorem d_Lw_law_691 : decode code 691 = .ok (.iaload, 1) := by decide +kernel
theorem d_Lw_law_692 : decode code 692 = .ok (.aload_n 0, 1) := by decide +kernel
theorem d_Lw_law_693 : decode code 693 = .ok (.iload_n 3, 1) := by decide +kernel
theorem d_Lw_law_694 : decode code 694 = .ok (.iconst 2, 1) := by decide +kernel
theorem d_Lw_law_695 : decode code 695 = .ok (.iadd, 1) := by decide +kernel
theorem d_Lw_law_696 : decode code 696 = .ok (.iaload, 1) := by decide +kernel
theorem d_Lw_law_697 : decode code 697 = .ok (.invokevirtual 75, 3) := by decide +kernel
theorem d_Lw_law_700 : decode code 700 = .ok (.aload_n 2, 1) := by decide +kernel
theorem d_Lw_law_701 : decode code 701 = .ok (.aload_n 0, 1) := by decide +kernel
theorem d_Lw_law_702 : decode code 702 = .ok (.iload_n 3, 1) := by decide +kernel
theorem d_Lw_law_703 : decode code 703 = .ok (.iconst 1, 1) := by decide +kernel
theorem d_Lw_law_704 : decode code 704 = .ok (.iadd, 1) := by decide +kernel
theorem d_Lw_law_705 : decode code 705 = .ok (.iaload, 1) := by decide +kernel
theorem d_Lw_law_706 : decode code 706 = .ok (.aload_n 0, 1) := by decide +kernel
theorem d_Lw_law_707 : decode code 707 = .ok (.iload_n 3, 1) := by decide +kernel
theorem d_Lw_law_708 : decode code 708 = .ok (.iconst 2, 1) := by decide +kernel
theorem d_Lw_law_709 : decode code 709 = .ok (.iadd, 1) := by decide +kernel
theorem d_Lw_law_710 : decode code 710 = .ok (.iaload, 1) := by decide +kernel
theorem d_Lw_law_711 : decode code 711 = .ok (.invokevirtual 78, 3) := by decide +kernel
theorem d_Lw_law_714 : decode code 714 = .ok (.if_icmp .eq 703, 3) := by decide +kernel
theorem d_Lw_law_717 : decode code 717 = .ok (.iconst 0, 1) := by decide +kernel
theorem d_Lw_law_718 : decode code 718 = .ok (.ireturn, 1) := by decide +kernel
theorem d_Lw_law_719 : decode code 719 = .ok (.aload_n 1, 1) := by decide +kernel
theorem d_Lw_law_720 : decode code 720 = .ok (.aload_n 0, 1) := by decide +kernel
theorem d_Lw_law_721 : decode code 721 = .ok (.iload_n 3, 1) := by decide +kernel
theorem d_Lw_law_722 : decode code 722 = .ok (.iconst 1, 1) := by decide +kernel
theorem d_Lw_law_723 : decode code 723 = .ok (.iadd, 1) := by decide +kernel
theorem d_Lw_law_724 : decode code 724 = .ok (.iaload, 1) := by decide +kernel
theorem d_Lw_law_725 : decode code 725 = .ok (.invokevirtual 79, 3) := by decide +kernel
theorem d_Lw_law_728 : decode code 728 = .ok (.aload_n 2, 1) := by decide +kernel
theorem d_Lw_law_729 : decode code 729 = .ok (.aload_n 0, 1) := by decide +kernel
theorem d_Lw_law_730 : decode code 730 = .ok (.iload_n 3, 1) := by decide +kernel
theorem d_Lw_law_731 : decode code 731 = .ok (.iconst 1, 1) := by decide +kernel
theorem d_Lw_law_732 : decode code 732 = .ok (.iadd, 1) := by decide +kernel
theorem d_Lw_law_733 : decode code 733 = .ok (.iaload, 1) := by decide +kernel
theorem d_Lw_law_734 : decode code 734 = .ok (.invokevirtual 82, 3) := by decide +kernel
theorem d_Lw_law_737 : decode code 737 = .ok (.if_icmp .eq 680, 3) := by decide +kernel
theorem d_Lw_law_740 : decode code 740 = .ok (.iconst 0, 1) := by decide +kernel
theorem d_Lw_law_741 : decode code 741 = .ok (.ireturn, 1) := by decide +kernel
theorem d_Lw_law_742 : decode code 742 = .ok (.aload_n 1, 1) := by decide +kernel
theorem d_Lw_law_743 : decode code 743 = .ok (.aload_n 0, 1) := by decide +kernel
theorem d_Lw_law_744 : decode code 744 = .ok (.iload_n 3, 1) := by decide +kernel
theorem d_Lw_law_745 : decode code 745 = .ok (.iconst 1, 1) := by decide +kernel
theorem d_Lw_law_746 : decode code 746 = .ok (.iadd, 1) := by decide +kernel
theorem d_Lw_law_747 : decode code 747 = .ok (.iaload, 1) := by decide +kernel
theorem d_Lw_law_748 : decode code 748 = .ok (.aload_n 0, 1) := by decide +kernel
theorem d_Lw_law_749 : decode code 749 = .ok (.iload_n 3, 1) := by decide +kernel
theorem d_Lw_law_750 : decode code 750 = .ok (.iconst 2, 1) := by decide +kernel
theorem d_Lw_law_751 : decode code 751 = .ok (.iadd, 1) := by decide +kernel
theorem d_Lw_law_752 : decode code 752 = .ok (.iaload, 1) := by decide +kernel
theorem d_Lw_law_753 : decode code 753 = .ok (.aload_n 0, 1) := by decide +kernel
theorem d_Lw_law_754 : decode code 754 = .ok (.iload_n 3, 1) := by decide +kernel
theorem d_Lw_law_755 : decode code 755 = .ok (.iconst 3, 1) := by decide +kernel
theorem d_Lw_law_756 : decode code 756 = .ok (.iadd, 1) := by decide +kernel
theorem d_Lw_law_757 : decode code 757 = .ok (.iaload, 1) := by decide +kernel
theorem d_Lw_law_758 : decode code 758 = .ok (.invokevirtual 83, 3) := by decide +kernel
theorem d_Lw_law_761 : decode code 761 = .ok (.aload_n 2, 1) := by decide +kernel
theorem d_Lw_law_762 : decode code 762 = .ok (.aload_n 0, 1) := by decide +kernel
theorem d_Lw_law_763 : decode code 763 = .ok (.iload_n 3, 1) := by decide +kernel
theorem d_Lw_law_764 : decode code 764 = .ok (.iconst 1, 1) := by decide +kernel
theorem d_Lw_law_765 : decode code 765 = .ok (.iadd, 1) := by decide +kernel
theorem d_Lw_law_766 : decode code 766 = .ok (.iaload, 1) := by decide +kernel
theorem d_Lw_law_767 : decode code 767 = .ok (.aload_n 0, 1) := by decide +kernel
theorem d_Lw_law_768 : decode code 768 = .ok (.iload_n 3, 1) := by decide +kernel
theorem d_Lw_law_769 : decode code 769 = .ok (.iconst 2, 1) := by decide +kernel
theorem d_Lw_law_770 : decode code 770 = .ok (.iadd, 1) := by decide +kernel
theorem d_Lw_law_771 : decode code 771 = .ok (.iaload, 1) := by decide +kernel
theorem d_Lw_law_772 : decode code 772 = .ok (.aload_n 0, 1) := by decide +kernel
theorem d_Lw_law_773 : decode code 773 = .ok (.iload_n 3, 1) := by decide +kernel
theorem d_Lw_law_774 : decode code 774 = .ok (.iconst 3, 1) := by decide +kernel
theorem d_Lw_law_775 : decode code 775 = .ok (.iadd, 1) := by decide +kernel
theorem d_Lw_law_776 : decode code 776 = .ok (.iaload, 1) := by decide +kernel
theorem d_Lw_law_777 : decode code 777 = .ok (.invokevirtual 86, 3) := by decide +kernel
theorem d_Lw_law_780 : decode code 780 = .ok (.if_icmp .eq 637, 3) := by decide +kernel
theorem d_Lw_law_783 : decode code 783 = .ok (.iconst 0, 1) := by decide +kernel
theorem d_Lw_law_784 : decode code 784 = .ok (.ireturn, 1) := by decide +kernel
theorem d_Lw_law_785 : decode code 785 = .ok (.aload_n 1, 1) := by decide +kernel
theorem d_Lw_law_786 : decode code 786 = .ok (.aload_n 0, 1) := by decide +kernel
theorem d_Lw_law_787 : decode code 787 = .ok (.iload_n 3, 1) := by decide +kernel
theorem d_Lw_law_788 : decode code 788 = .ok (.iconst 1, 1) := by decide +kernel
theorem d_Lw_law_789 : decode code 789 = .ok (.iadd, 1) := by decide +kernel
theorem d_Lw_law_790 : decode code 790 = .ok (.iaload, 1) := by decide +kernel
theorem d_Lw_law_791 : decode code 791 = .ok (.invokevirtual 87, 3) := by decide +kernel
theorem d_Lw_law_794 : decode code 794 = .ok (.aload_n 2, 1) := by decide +kernel
theorem d_Lw_law_795 : decode code 795 = .ok (.aload_n 0, 1) := by decide +kernel
theorem d_Lw_law_796 : decode code 796 = .ok (.iload_n 3, 1) := by decide +kernel
theorem d_Lw_law_797 : decode code 797 = .ok (.iconst 1, 1) := by decide +kernel
theorem d_Lw_law_798 : decode code 798 = .ok (.iadd, 1) := by decide +kernel
theorem d_Lw_law_799 : decode code 799 = .ok (.iaload, 1) := by decide +kernel
theorem d_Lw_law_800 : decode code 800 = .ok (.invokevirtual 90, 3) := by decide +kernel
theorem d_Lw_law_803 : decode code 803 = .ok (.if_icmp .eq 614, 3) := by decide +kernel
theorem d_Lw_law_806 : decode code 806 = .ok (.iconst 0, 1) := by decide +kernel
theorem d_Lw_law_807 : decode code 807 = .ok (.ireturn, 1) := by decide +kernel
theorem d_Lw_law_808 : decode code 808 = .ok (.aload_n 1, 1) := by decide +kernel
theorem d_Lw_law_809 : decode code 809 = .ok (.aload_n 0, 1) := by decide +kernel
theorem d_Lw_law_810 : decode code 810 = .ok (.iload_n 3, 1) := by decide +kernel
theorem d_Lw_law_811 : decode code 811 = .ok (.iconst 1, 1) := by decide +kernel
theorem d_Lw_law_812 : decode code 812 = .ok (.iadd, 1) := by decide +kernel
theorem d_Lw_law_813 : decode code 813 = .ok (.iaload, 1) := by decide +kernel
theorem d_Lw_law_814 : decode code 814 = .ok (.aload_n 0, 1) := by decide +kernel
theorem d_Lw_law_815 : decode code 815 = .ok (.iload_n 3, 1) := by decide +kernel
theorem d_Lw_law_816 : decode code 816 = .ok (.iconst 2, 1) := by decide +kernel
theorem d_Lw_law_817 : decode code 817 = .ok (.iadd, 1) := by decide +kernel
theorem d_Lw_law_818 : decode code 818 = .ok (.iaload, 1) := by decide +kernel
theorem d_Lw_law_819 : decode code 819 = .ok (.invokevirtual 91, 3) := by decide +kernel
theorem d_Lw_law_822 : decode code 822 = .ok (.aload_n 2, 1) := by decide +kernel
theorem d_Lw_law_823 : decode code 823 = .ok (.aload_n 0, 1) := by decide +kernel
theorem d_Lw_law_824 : decode code 824 = .ok (.iload_n 3, 1) := by decide +kernel
theorem d_Lw_law_825 : decode code 825 = .ok (.iconst 1, 1) := by decide +kernel
theorem d_Lw_law_826 : decode code 826 = .ok (.iadd, 1) := by decide +kernel
theorem d_Lw_law_827 : decode code 827 = .ok (.iaload, 1) := by decide +kernel
theorem d_Lw_law_828 : decode code 828 = .ok (.aload_n 0, 1) := by decide +kernel
theorem d_Lw_law_829 : decode code 829 = .ok (.iload_n 3, 1) := by decide +kernel
theorem d_Lw_law_830 : decode code 830 = .ok (.iconst 2, 1) := by decide +kernel
theorem d_Lw_law_831 : decode code 831 = .ok (.iadd, 1) := by decide +kernel
theorem d_Lw_law_832 : decode code 832 = .ok (.iaload, 1) := by decide +kernel
theorem d_Lw_law_833 : decode code 833 = .ok (.invokevirtual 94, 3) := by decide +kernel
theorem d_Lw_law_836 : decode code 836 = .ok (.if_icmp .eq 581, 3) := by decide +kernel
theorem d_Lw_law_839 : decode code 839 = .ok (.iconst 0, 1) := by decide +kernel
theorem d_Lw_law_840 : decode code 840 = .ok (.ireturn, 1) := by decide +kernel
theorem d_Lw_law_841 : decode code 841 = .ok (.aload_n 1, 1) := by decide +kernel
theorem d_Lw_law_842 : decode code 842 = .ok (.aload_n 0, 1) := by decide +kernel
theorem d_Lw_law_843 : decode code 843 = .ok (.iload_n 3, 1) := by decide +kernel
theorem d_Lw_law_844 : decode code 844 = .ok (.iconst 1, 1) := by decide +kernel
theorem d_Lw_law_845 : decode code 845 = .ok (.iadd, 1) := by decide +kernel
theorem d_Lw_law_846 : decode code 846 = .ok (.iaload, 1) := by decide +kernel
theorem d_Lw_law_847 : decode code 847 = .ok (.invokevirtual 95, 3) := by decide +kernel
theorem d_Lw_law_850 : decode code 850 = .ok (.aload_n 2, 1) := by decide +kernel
theorem d_Lw_law_851 : decode code 851 = .ok (.aload_n 0, 1) := by decide +kernel
theorem d_Lw_law_852 : decode code 852 = .ok (.iload_n 3, 1) := by decide +kernel
theorem d_Lw_law_853 : decode code 853 = .ok (.iconst 1, 1) := by decide +kernel
theorem d_Lw_law_854 : decode code 854 = .ok (.iadd, 1) := by decide +kernel
theorem d_Lw_law_855 : decode code 855 = .ok (.iaload, 1) := by decide +kernel
theorem d_Lw_law_856 : decode code 856 = .ok (.invokevirtual 98, 3) := by decide +kernel
theorem d_Lw_law_859 : decode code 859 = .ok (.if_icmp .eq 558, 3) := by decide +kernel
theorem d_Lw_law_862 : decode code 862 = .ok (.iconst 0, 1) := by decide +kernel
theorem d_Lw_law_863 : decode code 863 = .ok (.ireturn, 1) := by decide +kernel
theorem d_Lw_law_864 : decode code 864 = .ok (.aload_n 1, 1) := by decide +kernel
theorem d_Lw_law_865 : decode code 865 = .ok (.aload_n 0, 1) := by decide +kernel
theorem d_Lw_law_866 : decode code 866 = .ok (.iload_n 3, 1) := by decide +kernel
theorem d_Lw_law_867 : decode code 867 = .ok (.iconst 1, 1) := by decide +kernel
theorem d_Lw_law_868 : decode code 868 = .ok (.iadd, 1) := by decide +kernel
theorem d_Lw_law_869 : decode code 869 = .ok (.iaload, 1) := by decide +kernel
theorem d_Lw_law_870 : decode code 870 = .ok (.invokevirtual 99, 3) := by decide +kernel
theorem d_Lw_law_873 : decode code 873 = .ok (.aload_n 2, 1) := by decide +kernel
theorem d_Lw_law_874 : decode code 874 = .ok (.aload_n 0, 1) := by decide +kernel
theorem d_Lw_law_875 : decode code 875 = .ok (.iload_n 3, 1) := by decide +kernel
theorem d_Lw_law_876 : decode code 876 = .ok (.iconst 1, 1) := by decide +kernel
theorem d_Lw_law_877 : decode code 877 = .ok (.iadd, 1) := by decide +kernel
theorem d_Lw_law_878 : decode code 878 = .ok (.iaload, 1) := by decide +kernel
theorem d_Lw_law_879 : decode code 879 = .ok (.invokevirtual 102, 3) := by decide +kernel
theorem d_Lw_law_882 : decode code 882 = .ok (.if_icmp .eq 535, 3) := by decide +kernel
theorem d_Lw_law_885 : decode code 885 = .ok (.iconst 0, 1) := by decide +kernel
theorem d_Lw_law_886 : decode code 886 = .ok (.ireturn, 1) := by decide +kernel
theorem d_Lw_law_887 : decode code 887 = .ok (.aload_n 1, 1) := by decide +kernel
theorem d_Lw_law_888 : decode code 888 = .ok (.aload_n 0, 1) := by decide +kernel
theorem d_Lw_law_889 : decode code 889 = .ok (.iload_n 3, 1) := by decide +kernel
theorem d_Lw_law_890 : decode code 890 = .ok (.iconst 1, 1) := by decide +kernel
theorem d_Lw_law_891 : decode code 891 = .ok (.iadd, 1) := by decide +kernel
theorem d_Lw_law_892 : decode code 892 = .ok (.iaload, 1) := by decide +kernel
theorem d_Lw_law_893 : decode code 893 = .ok (.aload_n 0, 1) := by decide +kernel
theorem d_Lw_law_894 : decode code 894 = .ok (.iload_n 3, 1) := by decide +kernel
theorem d_Lw_law_895 : decode code 895 = .ok (.iconst 2, 1) := by decide +kernel
theorem d_Lw_law_896 : decode code 896 = .ok (.iadd, 1) := by decide +kernel
theorem d_Lw_law_897 : decode code 897 = .ok (.iaload, 1) := by decide +kernel
theorem d_Lw_law_898 : decode code 898 = .ok (.invokevirtual 103, 3) := by decide +kernel
theorem d_Lw_law_901 : decode code 901 = .ok (.aload_n 2, 1) := by decide +kernel
theorem d_Lw_law_902 : decode code 902 = .ok (.aload_n 0, 1) := by decide +kernel
theorem d_Lw_law_903 : decode code 903 = .ok (.iload_n 3, 1) := by decide +kernel
theorem d_Lw_law_904 : decode code 904 = .ok (.iconst 1, 1) := by decide +kernel
theorem d_Lw_law_905 : decode code 905 = .ok (.iadd, 1) := by decide +kernel
theorem d_Lw_law_906 : decode code 906 = .ok (.iaload, 1) := by decide +kernel
theorem d_Lw_law_907 : decode code 907 = .ok (.aload_n 0, 1) := by decide +kernel
theorem d_Lw_law_908 : decode code 908 = .ok (.iload_n 3, 1) := by decide +kernel
theorem d_Lw_law_909 : decode code 909 = .ok (.iconst 2, 1) := by decide +kernel
theorem d_Lw_law_910 : decode code 910 = .ok (.iadd, 1) := by decide +kernel
theorem d_Lw_law_911 : decode code 911 = .ok (.iaload, 1) := by decide +kernel
theorem d_Lw_law_912 : decode code 912 = .ok (.invokevirtual 106, 3) := by decide +kernel
theorem d_Lw_law_915 : decode code 915 = .ok (.if_icmp .eq 502, 3) := by decide +kernel
theorem d_Lw_law_918 : decode code 918 = .ok (.iconst 0, 1) := by decide +kernel
theorem d_Lw_law_919 : decode code 919 = .ok (.ireturn, 1) := by decide +kernel
theorem d_Lw_law_920 : decode code 920 = .ok (.aload_n 1, 1) := by decide +kernel
theorem d_Lw_law_921 : decode code 921 = .ok (.aload_n 0, 1) := by decide +kernel
theorem d_Lw_law_922 : decode code 922 = .ok (.iload_n 3, 1) := by decide +kernel
theorem d_Lw_law_923 : decode code 923 = .ok (.iconst 1, 1) := by decide +kernel
theorem d_Lw_law_924 : decode code 924 = .ok (.iadd, 1) := by decide +kernel
theorem d_Lw_law_925 : decode code 925 = .ok (.iaload, 1) := by decide +kernel
theorem d_Lw_law_926 : decode code 926 = .ok (.invokevirtual 107, 3) := by decide +kernel
theorem d_Lw_law_929 : decode code 929 = .ok (.aload_n 2, 1) := by decide +kernel
theorem d_Lw_law_930 : decode code 930 = .ok (.aload_n 0, 1) := by decide +kernel
theorem d_Lw_law_931 : decode code 931 = .ok (.iload_n 3, 1) := by decide +kernel
theorem d_Lw_law_932 : decode code 932 = .ok (.iconst 1, 1) := by decide +kernel
theorem d_Lw_law_933 : decode code 933 = .ok (.iadd, 1) := by decide +kernel
theorem d_Lw_law_934 : decode code 934 = .ok (.iaload, 1) := by decide +kernel
theorem d_Lw_law_935 : decode code 935 = .ok (.invokevirtual 110, 3) := by decide +kernel
theorem d_Lw_law_938 : decode code 938 = .ok (.if_icmp .eq 479, 3) := by decide +kernel
theorem d_Lw_law_941 : decode code 941 = .ok (.iconst 0, 1) := by decide +kernel
theorem d_Lw_law_942 : decode code 942 = .ok (.ireturn, 1) := by decide +kernel
theorem d_Lw_law_943 : decode code 943 = .ok (.aload_n 1, 1) := by decide +kernel
theorem d_Lw_law_944 : decode code 944 = .ok (.aload_n 0, 1) := by decide +kernel
theorem d_Lw_law_945 : decode code 945 = .ok (.iload_n 3, 1) := by decide +kernel
theorem d_Lw_law_946 : decode code 946 = .ok (.iconst 1, 1) := by decide +kernel
theorem d_Lw_law_947 : decode code 947 = .ok (.iadd, 1) := by decide +kernel
theorem d_Lw_law_948 : decode code 948 = .ok (.iaload, 1) := by decide +kernel
theorem d_Lw_law_949 : decode code 949 = .ok (.aload_n 0, 1) := by decide +kernel
theorem d_Lw_law_950 : decode code 950 = .ok (.iload_n 3, 1) := by decide +kernel
theorem d_Lw_law_951 : decode code 951 = .ok (.iconst 2, 1) := by decide +kernel
theorem d_Lw_law_952 : decode code 952 = .ok (.iadd, 1) := by decide +kernel
theorem d_Lw_law_953 : decode code 953 = .ok (.iaload, 1) := by decide +kernel
theorem d_Lw_law_954 : decode code 954 = .ok (.invokevirtual 111, 3) := by decide +kernel
theorem d_Lw_law_957 : decode code 957 = .ok (.aload_n 2, 1) := by decide +kernel
theorem d_Lw_law_958 : decode code 958 = .ok (.aload_n 0, 1) := by decide +kernel
theorem d_Lw_law_959 : decode code 959 = .ok (.iload_n 3, 1) := by decide +kernel
theorem d_Lw_law_960 : decode code 960 = .ok (.iconst 1, 1) := by decide +kernel
theorem d_Lw_law_961 : decode code 961 = .ok (.iadd, 1) := by decide +kernel
theorem d_Lw_law_962 : decode code 962 = .ok (.iaload, 1) := by decide +kernel
theorem d_Lw_law_963 : decode code 963 = .ok (.aload_n 0, 1) := by decide +kernel
theorem d_Lw_law_964 : decode code 964 = .ok (.iload_n 3, 1) := by decide +kernel
theorem d_Lw_law_965 : decode code 965 = .ok (.iconst 2, 1) := by decide +kernel
theorem d_Lw_law_966 : decode code 966 = .ok (.iadd, 1) := by decide +kernel
theorem d_Lw_law_967 : decode code 967 = .ok (.iaload, 1) := by decide +kernel
theorem d_Lw_law_968 : decode code 968 = .ok (.invokevirtual 114, 3) := by decide +kernel
theorem d_Lw_law_971 : decode code 971 = .ok (.if_icmp .eq 446, 3) := by decide +kernel
theorem d_Lw_law_974 : decode code 974 = .ok (.iconst 0, 1) := by decide +kernel
theorem d_Lw_law_975 : decode code 975 = .ok (.ireturn, 1) := by decide +kernel
theorem d_Lw_law_976 : decode code 976 = .ok (.aload_n 1, 1) := by decide +kernel
theorem d_Lw_law_977 : decode code 977 = .ok (.aload_n 0, 1) := by decide +kernel
theorem d_Lw_law_978 : decode code 978 = .ok (.iload_n 3, 1) := by decide +kernel
theorem d_Lw_law_979 : decode code 979 = .ok (.iconst 1, 1) := by decide +kernel
theorem d_Lw_law_980 : decode code 980 = .ok (.iadd, 1) := by decide +kernel
theorem d_Lw_law_981 : decode code 981 = .ok (.iaload, 1) := by decide +kernel
theorem d_Lw_law_982 : decode code 982 = .ok (.invokevirtual 115, 3) := by decide +kernel
theorem d_Lw_law_985 : decode code 985 = .ok (.aload_n 2, 1) := by decide +kernel
theorem d_Lw_law_986 : decode code 986 = .ok (.aload_n 0, 1) := by decide +kernel
theorem d_Lw_law_987 : decode code 987 = .ok (.iload_n 3, 1) := by decide +kernel
theorem d_Lw_law_988 : decode code 988 = .ok (.iconst 1, 1) := by decide +kernel
theorem d_Lw_law_989 : decode code 989 = .ok (.iadd, 1) := by decide +kernel
theorem d_Lw_law_990 : decode code 990 = .ok (.iaload, 1) := by decide +kernel
theorem d_Lw_law_991 : decode code 991 = .ok (.invokevirtual 118, 3) := by decide +kernel
theorem d_Lw_law_994 : decode code 994 = .ok (.if_icmp .eq 423, 3) := by decide +kernel
theorem d_Lw_law_997 : decode code 997 = .ok (.iconst 0, 1) := by decide +kernel
theorem d_Lw_law_998 : decode code 998 = .ok (.ireturn, 1) := by decide +kernel
theorem d_Lw_law_999 : decode code 999 = .ok (.aload_n 1, 1) := by decide +kernel
theorem d_Lw_law_1000 : decode code 1000 = .ok (.aload_n 0, 1) := by decide +kernel
theorem d_Lw_law_1001 : decode code 1001 = .ok (.iload_n 3, 1) := by decide +kernel
theorem d_Lw_law_1002 : decode code 1002 = .ok (.iconst 1, 1) := by decide +kernel
theorem d_Lw_law_1003 : decode code 1003 = .ok (.iadd, 1) := by decide +kernel
theorem d_Lw_law_1004 : decode code 1004 = .ok (.iaload, 1) := by decide +kernel
theorem d_Lw_law_1005 : decode code 1005 = .ok (.aload_n 0, 1) := by decide +kernel
theorem d_Lw_law_1006 : decode code 1006 = .ok (.iload_n 3, 1) := by decide +kernel
theorem d_Lw_law_1007 : decode code 1007 = .ok (.iconst 2, 1) := by decide +kernel
theorem d_Lw_law_1008 : decode code 1008 = .ok (.iadd, 1) := by decide +kernel
theorem d_Lw_law_1009 : decode code 1009 = .ok (.iaload, 1) := by decide +kernel
theorem d_Lw_law_1010 : decode code 1010 = .ok (.aload_n 0, 1) := by decide +kernel
theorem d_Lw_law_1011 : decode code 1011 = .ok (.iload_n 3, 1) := by decide +kernel
theorem d_Lw_law_1012 : decode code 1012 = .ok (.iconst 3, 1) := by decide +kernel
theorem d_Lw_law_1013 : decode code 1013 = .ok (.iadd, 1) := by decide +kernel
theorem d_Lw_law_1014 : decode code 1014 = .ok (.iaload, 1) := by decide +kernel
theorem d_Lw_law_1015 : decode code 1015 = .ok (.aload_n 0, 1) := by decide +kernel
theorem d_Lw_law_1016 : decode code 1016 = .ok (.iload_n 3, 1) := by decide +kernel
theorem d_Lw_law_1017 : decode code 1017 = .ok (.iconst 4, 1) := by decide +kernel
theorem d_Lw_law_1018 : decode code 1018 = .ok (.iadd, 1) := by decide +kernel
theorem d_Lw_law_1019 : decode code 1019 = .ok (.iaload, 1) := by decide +kernel
theorem d_Lw_law_1020 : decode code 1020 = .ok (.invokevirtual 119, 3) := by decide +kernel
theorem d_Lw_law_1023 : decode code 1023 = .ok (.aload_n 2, 1) := by decide +kernel
theorem d_Lw_law_1024 : decode code 1024 = .ok (.aload_n 0, 1) := by decide +kernel
theorem d_Lw_law_1025 : decode code 1025 = .ok (.iload_n 3, 1) := by decide +kernel
theorem d_Lw_law_1026 : decode code 1026 = .ok (.iconst 1, 1) := by decide +kernel
theorem d_Lw_law_1027 : decode code 1027 = .ok (.iadd, 1) := by decide +kernel
theorem d_Lw_law_1028 : decode code 1028 = .ok (.iaload, 1) := by decide +kernel
theorem d_Lw_law_1029 : decode code 1029 = .ok (.aload_n 0, 1) := by decide +kernel
theorem d_Lw_law_1030 : decode code 1030 = .ok (.iload_n 3, 1) := by decide +kernel
theorem d_Lw_law_1031 : decode code 1031 = .ok (.iconst 2, 1) := by decide +kernel
theorem d_Lw_law_1032 : decode code 1032 = .ok (.iadd, 1) := by decide +kernel
theorem d_Lw_law_1033 : decode code 1033 = .ok (.iaload, 1) := by decide +kernel
theorem d_Lw_law_1034 : decode code 1034 = .ok (.aload_n 0, 1) := by decide +kernel
theorem d_Lw_law_1035 : decode code 1035 = .ok (.iload_n 3, 1) := by decide +kernel
theorem d_Lw_law_1036 : decode code 1036 = .ok (.iconst 3, 1) := by decide +kernel
theorem d_Lw_law_1037 : decode code 1037 = .ok (.iadd, 1) := by decide +kernel
theorem d_Lw_law_1038 : decode code 1038 = .ok (.iaload, 1) := by decide +kernel
theorem d_Lw_law_1039 : decode code 1039 = .ok (.aload_n 0, 1) := by decide +kernel
theorem d_Lw_law_1040 : decode code 1040 = .ok (.iload_n 3, 1) := by decide +kernel
theorem d_Lw_law_1041 : decode code 1041 = .ok (.iconst 4, 1) := by decide +kernel
theorem d_Lw_law_1042 : decode code 1042 = .ok (.iadd, 1) := by decide +kernel
theorem d_Lw_law_1043 : decode code 1043 = .ok (.iaload, 1) := by decide +kernel
theorem d_Lw_law_1044 : decode code 1044 = .ok (.invokevirtual 123, 3) := by decide +kernel
theorem d_Lw_law_1047 : decode code 1047 = .ok (.if_icmp .eq 370, 3) := by decide +kernel
theorem d_Lw_law_1050 : decode code 1050 = .ok (.iconst 0, 1) := by decide +kernel
theorem d_Lw_law_1051 : decode code 1051 = .ok (.ireturn, 1) := by decide +kernel
theorem d_Lw_law_1052 : decode code 1052 = .ok (.aload_n 1, 1) := by decide +kernel
theorem d_Lw_law_1053 : decode code 1053 = .ok (.aload_n 0, 1) := by decide +kernel
theorem d_Lw_law_1054 : decode code 1054 = .ok (.iload_n 3, 1) := by decide +kernel
theorem d_Lw_law_1055 : decode code 1055 = .ok (.iconst 1, 1) := by decide +kernel
theorem d_Lw_law_1056 : decode code 1056 = .ok (.iadd, 1) := by decide +kernel
theorem d_Lw_law_1057 : decode code 1057 = .ok (.iaload, 1) := by decide +kernel
theorem d_Lw_law_1058 : decode code 1058 = .ok (.aload_n 0, 1) := by decide +kernel
theorem d_Lw_law_1059 : decode code 1059 = .ok (.iload_n 3, 1) := by decide +kernel
theorem d_Lw_law_1060 : decode code 1060 = .ok (.iconst 2, 1) := by decide +kernel
theorem d_Lw_law_1061 : decode code 1061 = .ok (.iadd, 1) := by decide +kernel
theorem d_Lw_law_1062 : decode code 1062 = .ok (.iaload, 1) := by decide +kernel
theorem d_Lw_law_1063 : decode code 1063 = .ok (.aload_n 0, 1) := by decide +kernel
theorem d_Lw_law_1064 : decode code 1064 = .ok (.iload_n 3, 1) := by decide +kernel
theorem d_Lw_law_1065 : decode code 1065 = .ok (.iconst 3, 1) := by decide +kernel
theorem d_Lw_law_1066 : decode code 1066 = .ok (.iadd, 1) := by decide +kernel
theorem d_Lw_law_1067 : decode code 1067 = .ok (.iaload, 1) := by decide +kernel
theorem d_Lw_law_1068 : decode code 1068 = .ok (.invokevirtual 124, 3) := by decide +kernel
theorem d_Lw_law_1071 : decode code 1071 = .ok (.aload_n 2, 1) := by decide +kernel
theorem d_Lw_law_1072 : decode code 1072 = .ok (.aload_n 0, 1) := by decide +kernel
theorem d_Lw_law_1073 : decode code 1073 = .ok (.iload_n 3, 1) := by decide +kernel
theorem d_Lw_law_1074 : decode code 1074 = .ok (.iconst 1, 1) := by decide +kernel
theorem d_Lw_law_1075 : decode code 1075 = .ok (.iadd, 1) := by decide +kernel
theorem d_Lw_law_1076 : decode code 1076 = .ok (.iaload, 1) := by decide +kernel
theorem d_Lw_law_1077 : decode code 1077 = .ok (.aload_n 0, 1) := by decide +kernel
theorem d_Lw_law_1078 : decode code 1078 = .ok (.iload_n 3, 1) := by decide +kernel
theorem d_Lw_law_1079 : decode code 1079 = .ok (.iconst 2, 1) := by decide +kernel
theorem d_Lw_law_1080 : decode code 1080 = .ok (.iadd, 1) := by decide +kernel
theorem d_Lw_law_1081 : decode code 1081 = .ok (.iaload, 1) := by decide +kernel
theorem d_Lw_law_1082 : decode code 1082 = .ok (.aload_n 0, 1) := by decide +kernel
theorem d_Lw_law_1083 : decode code 1083 = .ok (.iload_n 3, 1) := by decide +kernel
theorem d_Lw_law_1084 : decode code 1084 = .ok (.iconst 3, 1) := by decide +kernel
theorem d_Lw_law_1085 : decode code 1085 = .ok (.iadd, 1) := by decide +kernel
theorem d_Lw_law_1086 : decode code 1086 = .ok (.iaload, 1) := by decide +kernel
theorem d_Lw_law_1087 : decode code 1087 = .ok (.invokevirtual 127, 3) := by decide +kernel
theorem d_Lw_law_1090 : decode code 1090 = .ok (.if_icmp .eq 327, 3) := by decide +kernel
theorem d_Lw_law_1093 : decode code 1093 = .ok (.iconst 0, 1) := by decide +kernel
theorem d_Lw_law_1094 : decode code 1094 = .ok (.ireturn, 1) := by decide +kernel
theorem d_Lw_law_1095 : decode code 1095 = .ok (.aload_n 1, 1) := by decide +kernel
theorem d_Lw_law_1096 : decode code 1096 = .ok (.aload_n 0, 1) := by decide +kernel
theorem d_Lw_law_1097 : decode code 1097 = .ok (.iload_n 3, 1) := by decide +kernel
theorem d_Lw_law_1098 : decode code 1098 = .ok (.iconst 1, 1) := by decide +kernel
theorem d_Lw_law_1099 : decode code 1099 = .ok (.iadd, 1) := by decide +kernel
theorem d_Lw_law_1100 : decode code 1100 = .ok (.iaload, 1) := by decide +kernel
theorem d_Lw_law_1101 : decode code 1101 = .ok (.aload_n 0, 1) := by decide +kernel
theorem d_Lw_law_1102 : decode code 1102 = .ok (.iload_n 3, 1) := by decide +kernel
theorem d_Lw_law_1103 : decode code 1103 = .ok (.iconst 2, 1) := by decide +kernel
theorem d_Lw_law_1104 : decode code 1104 = .ok (.iadd, 1) := by decide +kernel
theorem d_Lw_law_1105 : decode code 1105 = .ok (.iaload, 1) := by decide +kernel
theorem d_Lw_law_1106 : decode code 1106 = .ok (.invokevirtual 128, 3) := by decide +kernel
theorem d_Lw_law_1109 : decode code 1109 = .ok (.aload_n 2, 1) := by decide +kernel
theorem d_Lw_law_1110 : decode code 1110 = .ok (.aload_n 0, 1) := by decide +kernel
theorem d_Lw_law_1111 : decode code 1111 = .ok (.iload_n 3, 1) := by decide +kernel
theorem d_Lw_law_1112 : decode code 1112 = .ok (.iconst 1, 1) := by decide +kernel
theorem d_Lw_law_1113 : decode code 1113 = .ok (.iadd, 1) := by decide +kernel
theorem d_Lw_law_1114 : decode code 1114 = .ok (.iaload, 1) := by decide +kernel
theorem d_Lw_law_1115 : decode code 1115 = .ok (.aload_n 0, 1) := by decide +kernel
theorem d_Lw_law_1116 : decode code 1116 = .ok (.iload_n 3, 1) := by decide +kernel
theorem d_Lw_law_1117 : decode code 1117 = .ok (.iconst 2, 1) := by decide +kernel
theorem d_Lw_law_1118 : decode code 1118 = .ok (.iadd, 1) := by decide +kernel
theorem d_Lw_law_1119 : decode code 1119 = .ok (.iaload, 1) := by decide +kernel
theorem d_Lw_law_1120 : decode code 1120 = .ok (.invokevirtual 131, 3) := by decide +kernel
theorem d_Lw_law_1123 : decode code 1123 = .ok (.if_icmp .eq 294, 3) := by decide +kernel
theorem d_Lw_law_1126 : decode code 1126 = .ok (.iconst 0, 1) := by decide +kernel
theorem d_Lw_law_1127 : decode code 1127 = .ok (.ireturn, 1) := by decide +kernel
theorem d_Lw_law_1128 : decode code 1128 = .ok (.aload_n 1, 1) := by decide +kernel
theorem d_Lw_law_1129 : decode code 1129 = .ok (.aload_n 0, 1) := by decide +kernel
theorem d_Lw_law_1130 : decode code 1130 = .ok (.iload_n 3, 1) := by decide +kernel
theorem d_Lw_law_1131 : decode code 1131 = .ok (.iconst 1, 1) := by decide +kernel
theorem d_Lw_law_1132 : decode code 1132 = .ok (.iadd, 1) := by decide +kernel
theorem d_Lw_law_1133 : decode code 1133 = .ok (.iaload, 1) := by decide +kernel
theorem d_Lw_law_1134 : decode code 1134 = .ok (.invokevirtual 132, 3) := by decide +kernel
theorem d_Lw_law_1137 : decode code 1137 = .ok (.aload_n 2, 1) := by decide +kernel
theorem d_Lw_law_1138 : decode code 1138 = .ok (.aload_n 0, 1) := by decide +kernel
theorem d_Lw_law_1139 : decode code 1139 = .ok (.iload_n 3, 1) := by decide +kernel
theorem d_Lw_law_1140 : decode code 1140 = .ok (.iconst 1, 1) := by decide +kernel
theorem d_Lw_law_1141 : decode code 1141 = .ok (.iadd, 1) := by decide +kernel
theorem d_Lw_law_1142 : decode code 1142 = .ok (.iaload, 1) := by decide +kernel
theorem d_Lw_law_1143 : decode code 1143 = .ok (.invokevirtual 135, 3) := by decide +kernel
theorem d_Lw_law_1146 : decode code 1146 = .ok (.if_icmp .eq 271, 3) := by decide +kernel
theorem d_Lw_law_1149 : decode code 1149 = .ok (.iconst 0, 1) := by decide +kernel
theorem d_Lw_law_1150 : decode code 1150 = .ok (.ireturn, 1) := by decide +kernel
theorem d_Lw_law_1151 : decode code 1151 = .ok (.aload_n 1, 1) := by decide +kernel
theorem d_Lw_law_1152 : decode code 1152 = .ok (.aload_n 0, 1) := by decide +kernel
theorem d_Lw_law_1153 : decode code 1153 = .ok (.iload_n 3, 1) := by decide +kernel
theorem d_Lw_law_1154 : decode code 1154 = .ok (.iconst 1, 1) := by decide +kernel
theorem d_Lw_law_1155 : decode code 1155 = .ok (.iadd, 1) := by decide +kernel
theorem d_Lw_law_1156 : decode code 1156 = .ok (.iaload, 1) := by decide +kernel
theorem d_Lw_law_1157 : decode code 1157 = .ok (.invokevirtual 136, 3) := by decide +kernel
theorem d_Lw_law_1160 : decode code 1160 = .ok (.aload_n 2, 1) := by decide +kernel
theorem d_Lw_law_1161 : decode code 1161 = .ok (.aload_n 0, 1) := by decide +kernel
theorem d_Lw_law_1162 : decode code 1162 = .ok (.iload_n 3, 1) := by decide +kernel
theorem d_Lw_law_1163 : decode code 1163 = .ok (.iconst 1, 1) := by decide +kernel
theorem d_Lw_law_1164 : decode code 1164 = .ok (.iadd, 1) := by decide +kernel
theorem d_Lw_law_1165 : decode code 1165 = .ok (.iaload, 1) := by decide +kernel
theorem d_Lw_law_1166 : decode code 1166 = .ok (.invokevirtual 139, 3) := by decide +kernel
theorem d_Lw_law_1169 : decode code 1169 = .ok (.if_icmp .eq 248, 3) := by decide +kernel
theorem d_Lw_law_1172 : decode code 1172 = .ok (.iconst 0, 1) := by decide +kernel
theorem d_Lw_law_1173 : decode code 1173 = .ok (.ireturn, 1) := by decide +kernel
theorem d_Lw_law_1174 : decode code 1174 = .ok (.aload_n 1, 1) := by decide +kernel
theorem d_Lw_law_1175 : decode code 1175 = .ok (.aload_n 0, 1) := by decide +kernel
theorem d_Lw_law_1176 : decode code 1176 = .ok (.iload_n 3, 1) := by decide +kernel
theorem d_Lw_law_1177 : decode code 1177 = .ok (.iconst 1, 1) := by decide +kernel
theorem d_Lw_law_1178 : decode code 1178 = .ok (.iadd, 1) := by decide +kernel
theorem d_Lw_law_1179 : decode code 1179 = .ok (.iaload, 1) := by decide +kernel
theorem d_Lw_law_1180 : decode code 1180 = .ok (.aload_n 0, 1) := by decide +kernel
theorem d_Lw_law_1181 : decode code 1181 = .ok (.iload_n 3, 1) := by decide +kernel
theorem d_Lw_law_1182 : decode code 1182 = .ok (.iconst 2, 1) := by decide +kernel
theorem d_Lw_law_1183 : decode code 1183 = .ok (.iadd, 1) := by decide +kernel
theorem d_Lw_law_1184 : decode code 1184 = .ok (.iaload, 1) := by decide +kernel
theorem d_Lw_law_1185 : decode code 1185 = .ok (.invokevirtual 140, 3) := by decide +kernel
theorem d_Lw_law_1188 : decode code 1188 = .ok (.aload_n 2, 1) := by decide +kernel
theorem d_Lw_law_1189 : decode code 1189 = .ok (.aload_n 0, 1) := by decide +kernel
theorem d_Lw_law_1190 : decode code 1190 = .ok (.iload_n 3, 1) := by decide +kernel
theorem d_Lw_law_1191 : decode code 1191 = .ok (.iconst 1, 1) := by decide +kernel
theorem d_Lw_law_1192 : decode code 1192 = .ok (.iadd, 1) := by decide +kernel
theorem d_Lw_law_1193 : decode code 1193 = .ok (.iaload, 1) := by decide +kernel
theorem d_Lw_law_1194 : decode code 1194 = .ok (.aload_n 0, 1) := by decide +kernel
theorem d_Lw_law_1195 : decode code 1195 = .ok (.iload_n 3, 1) := by decide +kernel
theorem d_Lw_law_1196 : decode code 1196 = .ok (.iconst 2, 1) := by decide +kernel
theorem d_Lw_law_1197 : decode code 1197 = .ok (.iadd, 1) := by decide +kernel
theorem d_Lw_law_1198 : decode code 1198 = .ok (.iaload, 1) := by decide +kernel
theorem d_Lw_law_1199 : decode code 1199 = .ok (.invokevirtual 144, 3) := by decide +kernel
theorem d_Lw_law_1202 : decode code 1202 = .ok (.if_icmp .eq 215, 3) := by decide +kernel
theorem d_Lw_law_1205 : decode code 1205 = .ok (.iconst 0, 1) := by decide +kernel
theorem d_Lw_law_1206 : decode code 1206 = .ok (.ireturn, 1) := by decide +kernel
theorem d_Lw_law_1207 : decode code 1207 = .ok (.aload_n 1, 1) := by decide +kernel
theorem d_Lw_law_1208 : decode code 1208 = .ok (.aload_n 0, 1) := by decide +kernel
theorem d_Lw_law_1209 : decode code 1209 = .ok (.iload_n 3, 1) := by decide +kernel
theorem d_Lw_law_1210 : decode code 1210 = .ok (.iconst 1, 1) := by decide +kernel
theorem d_Lw_law_1211 : decode code 1211 = .ok (.iadd, 1) := by decide +kernel
theorem d_Lw_law_1212 : decode code 1212 = .ok (.iaload, 1) := by decide +kernel
theorem d_Lw_law_1213 : decode code 1213 = .ok (.invokevirtual 145, 3) := by decide +kernel
theorem d_Lw_law_1216 : decode code 1216 = .ok (.aload_n 2, 1) := by decide +kernel
theorem d_Lw_law_1217 : decode code 1217 = .ok (.aload_n 0, 1) := by decide +kernel
theorem d_Lw_law_1218 : decode code 1218 = .ok (.iload_n 3, 1) := by decide +kernel
theorem d_Lw_law_1219 : decode code 1219 = .ok (.iconst 1, 1) := by decide +kernel
theorem d_Lw_law_1220 : decode code 1220 = .ok (.iadd, 1) := by decide +kernel
theorem d_Lw_law_1221 : decode code 1221 = .ok (.iaload, 1) := by decide +kernel
theorem d_Lw_law_1222 : decode code 1222 = .ok (.invokevirtual 148, 3) := by decide +kernel
theorem d_Lw_law_1225 : decode code 1225 = .ok (.if_icmp .eq 192, 3) := by decide +kernel
theorem d_Lw_law_1228 : decode code 1228 = .ok (.iconst 0, 1) := by decide +kernel
theorem d_Lw_law_1229 : decode code 1229 = .ok (.ireturn, 1) := by decide +kernel
theorem d_Lw_law_1230 : decode code 1230 = .ok (.aload_n 1, 1) := by decide +kernel
theorem d_Lw_law_1231 : decode code 1231 = .ok (.aload_n 0, 1) := by decide +kernel
theorem d_Lw_law_1232 : decode code 1232 = .ok (.iload_n 3, 1) := by decide +kernel
theorem d_Lw_law_1233 : decode code 1233 = .ok (.iconst 1, 1) := by decide +kernel
theorem d_Lw_law_1234 : decode code 1234 = .ok (.iadd, 1) := by decide +kernel
theorem d_Lw_law_1235 : decode code 1235 = .ok (.iaload, 1) := by decide +kernel
theorem d_Lw_law_1236 : decode code 1236 = .ok (.aload_n 0, 1) := by decide +kernel
theorem d_Lw_law_1237 : decode code 1237 = .ok (.iload_n 3, 1) := by decide +kernel
theorem d_Lw_law_1238 : decode code 1238 = .ok (.iconst 2, 1) := by decide +kernel
theorem d_Lw_law_1239 : decode code 1239 = .ok (.iadd, 1) := by decide +kernel
theorem d_Lw_law_1240 : decode code 1240 = .ok (.iaload, 1) := by decide +kernel
theorem d_Lw_law_1241 : decode code 1241 = .ok (.invokevirtual 149, 3) := by decide +kernel
theorem d_Lw_law_1244 : decode code 1244 = .ok (.aload_n 2, 1) := by decide +kernel
theorem d_Lw_law_1245 : decode code 1245 = .ok (.aload_n 0, 1) := by decide +kernel
theorem d_Lw_law_1246 : decode code 1246 = .ok (.iload_n 3, 1) := by decide +kernel
theorem d_Lw_law_1247 : decode code 1247 = .ok (.iconst 1, 1) := by decide +kernel
theorem d_Lw_law_1248 : decode code 1248 = .ok (.iadd, 1) := by decide +kernel
theorem d_Lw_law_1249 : decode code 1249 = .ok (.iaload, 1) := by decide +kernel
theorem d_Lw_law_1250 : decode code 1250 = .ok (.aload_n 0, 1) := by decide +kernel
theorem d_Lw_law_1251 : decode code 1251 = .ok (.iload_n 3, 1) := by decide +kernel
theorem d_Lw_law_1252 : decode code 1252 = .ok (.iconst 2, 1) := by decide +kernel
theorem d_Lw_law_1253 : decode code 1253 = .ok (.iadd, 1) := by decide +kernel
theorem d_Lw_law_1254 : decode code 1254 = .ok (.iaload, 1) := by decide +kernel
theorem d_Lw_law_1255 : decode code 1255 = .ok (.invokevirtual 152, 3) := by decide +kernel
theorem d_Lw_law_1258 : decode code 1258 = .ok (.if_icmp .eq 159, 3) := by decide +kernel
theorem d_Lw_law_1261 : decode code 1261 = .ok (.iconst 0, 1) := by decide +kernel
theorem d_Lw_law_1262 : decode code 1262 = .ok (.ireturn, 1) := by decide +kernel
theorem d_Lw_law_1263 : decode code 1263 = .ok (.aload_n 1, 1) := by decide +kernel
theorem d_Lw_law_1264 : decode code 1264 = .ok (.aload_n 0, 1) := by decide +kernel
theorem d_Lw_law_1265 : decode code 1265 = .ok (.iload_n 3, 1) := by decide +kernel
theorem d_Lw_law_1266 : decode code 1266 = .ok (.iconst 1, 1) := by decide +kernel
theorem d_Lw_law_1267 : decode code 1267 = .ok (.iadd, 1) := by decide +kernel
theorem d_Lw_law_1268 : decode code 1268 = .ok (.iaload, 1) := by decide +kernel
theorem d_Lw_law_1269 : decode code 1269 = .ok (.invokevirtual 153, 3) := by decide +kernel
theorem d_Lw_law_1272 : decode code 1272 = .ok (.aload_n 2, 1) := by decide +kernel
theorem d_Lw_law_1273 : decode code 1273 = .ok (.aload_n 0, 1) := by decide +kernel
theorem d_Lw_law_1274 : decode code 1274 = .ok (.iload_n 3, 1) := by decide +kernel
theorem d_Lw_law_1275 : decode code 1275 = .ok (.iconst 1, 1) := by decide +kernel
theorem d_Lw_law_1276 : decode code 1276 = .ok (.iadd, 1) := by decide +kernel
theorem d_Lw_law_1277 : decode code 1277 = .ok (.iaload, 1) := by decide +kernel
theorem d_Lw_law_1278 : decode code 1278 = .ok (.invokevirtual 156, 3) := by decide +kernel
theorem d_Lw_law_1281 : decode code 1281 = .ok (.if_icmp .eq 136, 3) := by decide +kernel
theorem d_Lw_law_1284 : decode code 1284 = .ok (.iconst 0, 1) := by decide +kernel
theorem d_Lw_law_1285 : decode code 1285 = .ok (.ireturn, 1) := by decide +kernel
theorem d_Lw_law_1286 : decode code 1286 = .ok (.aload_n 1, 1) := by decide +kernel
theorem d_Lw_law_1287 : decode code 1287 = .ok (.aload_n 0, 1) := by decide +kernel
theorem d_Lw_law_1288 : decode code 1288 = .ok (.iload_n 3, 1) := by decide +kernel
theorem d_Lw_law_1289 : decode code 1289 = .ok (.iconst 1, 1) := by decide +kernel
theorem d_Lw_law_1290 : decode code 1290 = .ok (.iadd, 1) := by decide +kernel
theorem d_Lw_law_1291 : decode code 1291 = .ok (.iaload, 1) := by decide +kernel
theorem d_Lw_law_1292 : decode code 1292 = .ok (.aload_n 0, 1) := by decide +kernel
theorem d_Lw_law_1293 : decode code 1293 = .ok (.iload_n 3, 1) := by decide +kernel
theorem d_Lw_law_1294 : decode code 1294 = .ok (.iconst 2, 1) := by decide +kernel
theorem d_Lw_law_1295 : decode code 1295 = .ok (.iadd, 1) := by decide +kernel
theorem d_Lw_law_1296 : decode code 1296 = .ok (.iaload, 1) := by decide +kernel
theorem d_Lw_law_1297 : decode code 1297 = .ok (.invokevirtual 157, 3) := by decide +kernel
theorem d_Lw_law_1300 : decode code 1300 = .ok (.aload_n 2, 1) := by decide +kernel
theorem d_Lw_law_1301 : decode code 1301 = .ok (.aload_n 0, 1) := by decide +kernel
theorem d_Lw_law_1302 : decode code 1302 = .ok (.iload_n 3, 1) := by decide +kernel
theorem d_Lw_law_1303 : decode code 1303 = .ok (.iconst 1, 1) := by decide +kernel
theorem d_Lw_law_1304 : decode code 1304 = .ok (.iadd, 1) := by decide +kernel
theorem d_Lw_law_1305 : decode code 1305 = .ok (.iaload, 1) := by decide +kernel
theorem d_Lw_law_1306 : decode code 1306 = .ok (.aload_n 0, 1) := by decide +kernel
theorem d_Lw_law_1307 : decode code 1307 = .ok (.iload_n 3, 1) := by decide +kernel
theorem d_Lw_law_1308 : decode code 1308 = .ok (.iconst 2, 1) := by decide +kernel
theorem d_Lw_law_1309 : decode code 1309 = .ok (.iadd, 1) := by decide +kernel
theorem d_Lw_law_1310 : decode code 1310 = .ok (.iaload, 1) := by decide +kernel
theorem d_Lw_law_1311 : decode code 1311 = .ok (.invokevirtual 160, 3) := by decide +kernel
theorem d_Lw_law_1314 : decode code 1314 = .ok (.if_icmp .eq 103, 3) := by decide +kernel
theorem d_Lw_law_1317 : decode code 1317 = .ok (.iconst 0, 1) := by decide +kernel
theorem d_Lw_law_1318 : decode code 1318 = .ok (.ireturn, 1) := by decide +kernel
theorem d_Lw_law_1319 : decode code 1319 = .ok (.aload_n 1, 1) := by decide +kernel
theorem d_Lw_law_1320 : decode code 1320 = .ok (.aload_n 0, 1) := by decide +kernel
theorem d_Lw_law_1321 : decode code 1321 = .ok (.iload_n 3, 1) := by decide +kernel
theorem d_Lw_law_1322 : decode code 1322 = .ok (.iconst 1, 1) := by decide +kernel
theorem d_Lw_law_1323 : decode code 1323 = .ok (.iadd, 1) := by decide +kernel
theorem d_Lw_law_1324 : decode code 1324 = .ok (.iaload, 1) := by decide +kernel
theorem d_Lw_law_1325 : decode code 1325 = .ok (.invokevirtual 161, 3) := by decide +kernel
theorem d_Lw_law_1328 : decode code 1328 = .ok (.aload_n 2, 1) := by decide +kernel
theorem d_Lw_law_1329 : decode code 1329 = .ok (.aload_n 0, 1) := by decide +kernel
theorem d_Lw_law_1330 : decode code 1330 = .ok (.iload_n 3, 1) := by decide +kernel
theorem d_Lw_law_1331 : decode code 1331 = .ok (.iconst 1, 1) := by decide +kernel
theorem d_Lw_law_1332 : decode code 1332 = .ok (.iadd, 1) := by decide +kernel
theorem d_Lw_law_1333 : decode code 1333 = .ok (.iaload, 1) := by decide +kernel
theorem d_Lw_law_1334 : decode code 1334 = .ok (.invokevirtual 164, 3) := by decide +kernel
theorem d_Lw_law_1337 : decode code 1337 = .ok (.if_icmp .eq 80, 3) := by decide +kernel
theorem d_Lw_law_1340 : decode code 1340 = .ok (.iconst 0, 1) := by decide +kernel
theorem d_Lw_law_1341 : decode code 1341 = .ok (.ireturn, 1) := by decide +kernel
theorem d_Lw_law_1342 : decode code 1342 = .ok (.aload_n 1, 1) := by decide +kernel
theorem d_Lw_law_1343 : decode code 1343 = .ok (.invokevirtual 165, 3) := by decide +kernel
theorem d_Lw_law_1346 : decode code 1346 = .ok (.aload_n 2, 1) := by decide +kernel
theorem d_Lw_law_1347 : decode code 1347 = .ok (.invokevirtual 169, 3) := by decide +kernel
theorem d_Lw_law_1350 : decode code 1350 = .ok (.if_icmp .eq 67, 3) := by decide +kernel
theorem d_Lw_law_1353 : decode code 1353 = .ok (.iconst 0, 1) := by decide +kernel
theorem d_Lw_law_1354 : decode code 1354 = .ok (.ireturn, 1) := by decide +kernel
theorem d_Lw_law_1355 : decode code 1355 = .ok (.aload_n 1, 1) := by decide +kernel
theorem d_Lw_law_1356 : decode code 1356 = .ok (.aload_n 0, 1) := by decide +kernel
theorem d_Lw_law_1357 : decode code 1357 = .ok (.iload_n 3, 1) := by decide +kernel
theorem d_Lw_law_1358 : decode code 1358 = .ok (.iconst 1, 1) := by decide +kernel
theorem d_Lw_law_1359 : decode code 1359 = .ok (.iadd, 1) := by decide +kernel
theorem d_Lw_law_1360 : decode code 1360 = .ok (.iaload, 1) := by decide +kernel
theorem d_Lw_law_1361 : decode code 1361 = .ok (.ifCond .eq 7, 3) := by decide +kernel
theorem d_Lw_law_1364 : decode code 1364 = .ok (.iconst 1, 1) := by decide +kernel
theorem d_Lw_law_1365 : decode code 1365 = .ok (.goto 4, 3) := by decide +kernel
theorem d_Lw_law_1368 : decode code 1368 = .ok (.iconst 0, 1) := by decide +kernel
theorem d_Lw_law_1369 : decode code 1369 = .ok (.invokevirtual 170, 3) := by decide +kernel
theorem d_Lw_law_1372 : decode code 1372 = .ok (.aload_n 2, 1) := by decide +kernel
theorem d_Lw_law_1373 : decode code 1373 = .ok (.aload_n 0, 1) := by decide +kernel
theorem d_Lw_law_1374 : decode code 1374 = .ok (.iload_n 3, 1) := by decide +kernel
theorem d_Lw_law_1375 : decode code 1375 = .ok (.iconst 1, 1) := by decide +kernel
theorem d_Lw_law_1376 : decode code 1376 = .ok (.iadd, 1) := by decide +kernel
theorem d_Lw_law_1377 : decode code 1377 = .ok (.iaload, 1) := by decide +kernel
theorem d_Lw_law_1378 : decode code 1378 = .ok (.ifCond .eq 7, 3) := by decide +kernel
theorem d_Lw_law_1381 : decode code 1381 = .ok (.iconst 1, 1) := by decide +kernel
theorem d_Lw_law_1382 : decode code 1382 = .ok (.goto 4, 3) := by decide +kernel
theorem d_Lw_law_1385 : decode code 1385 = .ok (.iconst 0, 1) := by decide +kernel
theorem d_Lw_law_1386 : decode code 1386 = .ok (.invokevirtual 174, 3) := by decide +kernel
theorem d_Lw_law_1389 : decode code 1389 = .ok (.if_icmp .eq 28, 3) := by decide +kernel
theorem d_Lw_law_1392 : decode code 1392 = .ok (.iconst 0, 1) := by decide +kernel
theorem d_Lw_law_1393 : decode code 1393 = .ok (.ireturn, 1) := by decide +kernel
theorem d_Lw_law_1394 : decode code 1394 = .ok (.aload_n 1, 1) := by decide +kernel
theorem d_Lw_law_1395 : decode code 1395 = .ok (.aload_n 0, 1) := by decide +kernel
theorem d_Lw_law_1396 : decode code 1396 = .ok (.iload_n 3, 1) := by decide +kernel
theorem d_Lw_law_1397 : decode code 1397 = .ok (.iconst 1, 1) := by decide +kernel
theorem d_Lw_law_1398 : decode code 1398 = .ok (.iadd, 1) := by decide +kernel
theorem d_Lw_law_1399 : decode code 1399 = .ok (.iaload, 1) := by decide +kernel
theorem d_Lw_law_1400 : decode code 1400 = .ok (.invokevirtual 175, 3) := by decide +kernel
theorem d_Lw_law_1403 : decode code 1403 = .ok (.aload_n 2, 1) := by decide +kernel
theorem d_Lw_law_1404 : decode code 1404 = .ok (.aload_n 0, 1) := by decide +kernel
theorem d_Lw_law_1405 : decode code 1405 = .ok (.iload_n 3, 1) := by decide +kernel
theorem d_Lw_law_1406 : decode code 1406 = .ok (.iconst 1, 1) := by decide +kernel
theorem d_Lw_law_1407 : decode code 1407 = .ok (.iadd, 1) := by decide +kernel
theorem d_Lw_law_1408 : decode code 1408 = .ok (.iaload, 1) := by decide +kernel
theorem d_Lw_law_1409 : decode code 1409 = .ok (.invokevirtual 178, 3) := by decide +kernel
theorem d_Lw_law_1412 : decode code 1412 = .ok (.if_icmp .eq 5, 3) := by decide +kernel
theorem d_Lw_law_1415 : decode code 1415 = .ok (.iconst 0, 1) := by decide +kernel
theorem d_Lw_law_1416 : decode code 1416 = .ok (.ireturn, 1) := by decide +kernel
theorem d_Lw_law_1417 : decode code 1417 = .ok (.iinc 3 6, 3) := by decide +kernel
theorem d_Lw_law_1420 : decode code 1420 = .ok (.goto (-1402), 3) := by decide +kernel
theorem d_Lw_law_1423 : decode code 1423 = .ok (.iconst 1, 1) := by decide +kernel
theorem d_Lw_law_1424 : decode code 1424 = .ok (.ireturn, 1) := by decide +kernel
