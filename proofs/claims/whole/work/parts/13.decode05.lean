/-! decode rows -/
theorem d_law_140 : decode (sk_cc m_law) 140 = .ok (.aload_n 0, 1) := by decide +kernel
theorem d_law_141 : decode (sk_cc m_law) 141 = .ok (.iload 4, 2) := by decide +kernel
theorem d_law_143 : decode (sk_cc m_law) 143 = .ok (.iconst 1, 1) := by decide +kernel
theorem d_law_144 : decode (sk_cc m_law) 144 = .ok (.iadd, 1) := by decide +kernel
theorem d_law_145 : decode (sk_cc m_law) 145 = .ok (.iaload, 1) := by decide +kernel
theorem d_law_146 : decode (sk_cc m_law) 146 = .ok (.ifCond .eq 7, 3) := by decide +kernel
theorem d_law_149 : decode (sk_cc m_law) 149 = .ok (.iconst 1, 1) := by decide +kernel
theorem d_law_150 : decode (sk_cc m_law) 150 = .ok (.goto 4, 3) := by decide +kernel
theorem d_law_153 : decode (sk_cc m_law) 153 = .ok (.iconst 0, 1) := by decide +kernel
theorem d_law_154 : decode (sk_cc m_law) 154 = .ok (.aload_n 3, 1) := by decide +kernel
theorem d_law_155 : decode (sk_cc m_law) 155 = .ok (.invokestatic 72, 3) := by decide +kernel
theorem d_law_158 : decode (sk_cc m_law) 158 = .ok (.istore 5, 2) := by decide +kernel
theorem d_law_160 : decode (sk_cc m_law) 160 = .ok (.aload_n 2, 1) := by decide +kernel
theorem d_law_161 : decode (sk_cc m_law) 161 = .ok (.aload_n 0, 1) := by decide +kernel
theorem d_law_162 : decode (sk_cc m_law) 162 = .ok (.iload 4, 2) := by decide +kernel
theorem d_law_164 : decode (sk_cc m_law) 164 = .ok (.iconst 1, 1) := by decide +kernel
theorem d_law_165 : decode (sk_cc m_law) 165 = .ok (.iadd, 1) := by decide +kernel
theorem d_law_166 : decode (sk_cc m_law) 166 = .ok (.iaload, 1) := by decide +kernel
theorem d_law_167 : decode (sk_cc m_law) 167 = .ok (.ifCond .eq 7, 3) := by decide +kernel
theorem d_law_170 : decode (sk_cc m_law) 170 = .ok (.iconst 1, 1) := by decide +kernel
theorem d_law_171 : decode (sk_cc m_law) 171 = .ok (.goto 4, 3) := by decide +kernel
theorem d_law_174 : decode (sk_cc m_law) 174 = .ok (.iconst 0, 1) := by decide +kernel
theorem d_law_175 : decode (sk_cc m_law) 175 = .ok (.invokevirtual 77, 3) := by decide +kernel
theorem d_law_178 : decode (sk_cc m_law) 178 = .ok (.istore 6, 2) := by decide +kernel
theorem d_law_180 : decode (sk_cc m_law) 180 = .ok (.aload_n 2, 1) := by decide +kernel
theorem d_law_181 : decode (sk_cc m_law) 181 = .ok (.invokevirtual 78, 3) := by decide +kernel
theorem d_law_184 : decode (sk_cc m_law) 184 = .ok (.iload 5, 2) := by decide +kernel
theorem d_law_186 : decode (sk_cc m_law) 186 = .ok (.if_icmp .eq 5, 3) := by decide +kernel
theorem d_law_189 : decode (sk_cc m_law) 189 = .ok (.iconst 0, 1) := by decide +kernel
theorem d_law_190 : decode (sk_cc m_law) 190 = .ok (.ireturn, 1) := by decide +kernel
theorem d_law_191 : decode (sk_cc m_law) 191 = .ok (.iload 5, 2) := by decide +kernel
theorem d_law_193 : decode (sk_cc m_law) 193 = .ok (.ifCond .ne 15, 3) := by decide +kernel
theorem d_law_196 : decode (sk_cc m_law) 196 = .ok (.aload_n 3, 1) := by decide +kernel
theorem d_law_197 : decode (sk_cc m_law) 197 = .ok (.iconst 0, 1) := by decide +kernel
theorem d_law_198 : decode (sk_cc m_law) 198 = .ok (.laload, 1) := by decide +kernel
theorem d_law_199 : decode (sk_cc m_law) 199 = .ok (.iload 6, 2) := by decide +kernel
theorem d_law_201 : decode (sk_cc m_law) 201 = .ok (.i2l, 1) := by decide +kernel
theorem d_law_202 : decode (sk_cc m_law) 202 = .ok (.lcmp, 1) := by decide +kernel
theorem d_law_203 : decode (sk_cc m_law) 203 = .ok (.ifCond .eq 5, 3) := by decide +kernel
theorem d_law_206 : decode (sk_cc m_law) 206 = .ok (.iconst 0, 1) := by decide +kernel
theorem d_law_207 : decode (sk_cc m_law) 207 = .ok (.ireturn, 1) := by decide +kernel
theorem d_law_208 : decode (sk_cc m_law) 208 = .ok (.goto 966, 3) := by decide +kernel
theorem d_law_211 : decode (sk_cc m_law) 211 = .ok (.aload_n 1, 1) := by decide +kernel
theorem d_law_212 : decode (sk_cc m_law) 212 = .ok (.aload_n 0, 1) := by decide +kernel
theorem d_law_213 : decode (sk_cc m_law) 213 = .ok (.iload 4, 2) := by decide +kernel
theorem d_law_215 : decode (sk_cc m_law) 215 = .ok (.iconst 1, 1) := by decide +kernel
theorem d_law_216 : decode (sk_cc m_law) 216 = .ok (.iadd, 1) := by decide +kernel
theorem d_law_217 : decode (sk_cc m_law) 217 = .ok (.iaload, 1) := by decide +kernel
theorem d_law_218 : decode (sk_cc m_law) 218 = .ok (.aload_n 0, 1) := by decide +kernel
theorem d_law_219 : decode (sk_cc m_law) 219 = .ok (.iload 4, 2) := by decide +kernel
theorem d_law_221 : decode (sk_cc m_law) 221 = .ok (.iconst 2, 1) := by decide +kernel
theorem d_law_222 : decode (sk_cc m_law) 222 = .ok (.iadd, 1) := by decide +kernel
theorem d_law_223 : decode (sk_cc m_law) 223 = .ok (.iaload, 1) := by decide +kernel
theorem d_law_224 : decode (sk_cc m_law) 224 = .ok (.aload_n 0, 1) := by decide +kernel
theorem d_law_225 : decode (sk_cc m_law) 225 = .ok (.iload 4, 2) := by decide +kernel
theorem d_law_227 : decode (sk_cc m_law) 227 = .ok (.iconst 3, 1) := by decide +kernel
theorem d_law_228 : decode (sk_cc m_law) 228 = .ok (.iadd, 1) := by decide +kernel
theorem d_law_229 : decode (sk_cc m_law) 229 = .ok (.iaload, 1) := by decide +kernel
theorem d_law_230 : decode (sk_cc m_law) 230 = .ok (.aload_n 0, 1) := by decide +kernel
theorem d_law_231 : decode (sk_cc m_law) 231 = .ok (.iload 4, 2) := by decide +kernel
theorem d_law_233 : decode (sk_cc m_law) 233 = .ok (.iconst 4, 1) := by decide +kernel
theorem d_law_234 : decode (sk_cc m_law) 234 = .ok (.iadd, 1) := by decide +kernel
theorem d_law_235 : decode (sk_cc m_law) 235 = .ok (.iaload, 1) := by decide +kernel
theorem d_law_236 : decode (sk_cc m_law) 236 = .ok (.aload_n 3, 1) := by decide +kernel
theorem d_law_237 : decode (sk_cc m_law) 237 = .ok (.invokestatic 82, 3) := by decide +kernel
theorem d_law_240 : decode (sk_cc m_law) 240 = .ok (.istore 5, 2) := by decide +kernel
theorem d_law_242 : decode (sk_cc m_law) 242 = .ok (.aload_n 2, 1) := by decide +kernel
theorem d_law_243 : decode (sk_cc m_law) 243 = .ok (.aload_n 0, 1) := by decide +kernel
theorem d_law_244 : decode (sk_cc m_law) 244 = .ok (.iload 4, 2) := by decide +kernel
theorem d_law_246 : decode (sk_cc m_law) 246 = .ok (.iconst 1, 1) := by decide +kernel
theorem d_law_247 : decode (sk_cc m_law) 247 = .ok (.iadd, 1) := by decide +kernel
theorem d_law_248 : decode (sk_cc m_law) 248 = .ok (.iaload, 1) := by decide +kernel
theorem d_law_249 : decode (sk_cc m_law) 249 = .ok (.aload_n 0, 1) := by decide +kernel
theorem d_law_250 : decode (sk_cc m_law) 250 = .ok (.iload 4, 2) := by decide +kernel
theorem d_law_252 : decode (sk_cc m_law) 252 = .ok (.iconst 2, 1) := by decide +kernel
theorem d_law_253 : decode (sk_cc m_law) 253 = .ok (.iadd, 1) := by decide +kernel
theorem d_law_254 : decode (sk_cc m_law) 254 = .ok (.iaload, 1) := by decide +kernel
theorem d_law_255 : decode (sk_cc m_law) 255 = .ok (.aload_n 0, 1) := by decide +kernel
theorem d_law_256 : decode (sk_cc m_law) 256 = .ok (.iload 4, 2) := by decide +kernel
theorem d_law_258 : decode (sk_cc m_law) 258 = .ok (.iconst 3, 1) := by decide +kernel
theorem d_law_259 : decode (sk_cc m_law) 259 = .ok (.iadd, 1) := by decide +kernel
theorem d_law_260 : decode (sk_cc m_law) 260 = .ok (.iaload, 1) := by decide +kernel
theorem d_law_261 : decode (sk_cc m_law) 261 = .ok (.aload_n 0, 1) := by decide +kernel
theorem d_law_262 : decode (sk_cc m_law) 262 = .ok (.iload 4, 2) := by decide +kernel
theorem d_law_264 : decode (sk_cc m_law) 264 = .ok (.iconst 4, 1) := by decide +kernel
theorem d_law_265 : decode (sk_cc m_law) 265 = .ok (.iadd, 1) := by decide +kernel
theorem d_law_266 : decode (sk_cc m_law) 266 = .ok (.iaload, 1) := by decide +kernel
theorem d_law_267 : decode (sk_cc m_law) 267 = .ok (.invokevirtual 85, 3) := by decide +kernel
theorem d_law_270 : decode (sk_cc m_law) 270 = .ok (.istore 6, 2) := by decide +kernel
theorem d_law_272 : decode (sk_cc m_law) 272 = .ok (.aload_n 2, 1) := by decide +kernel
theorem d_law_273 : decode (sk_cc m_law) 273 = .ok (.invokevirtual 78, 3) := by decide +kernel
theorem d_law_276 : decode (sk_cc m_law) 276 = .ok (.iload 5, 2) := by decide +kernel
theorem d_law_278 : decode (sk_cc m_law) 278 = .ok (.if_icmp .eq 5, 3) := by decide +kernel
theorem d_law_281 : decode (sk_cc m_law) 281 = .ok (.iconst 0, 1) := by decide +kernel
theorem d_law_282 : decode (sk_cc m_law) 282 = .ok (.ireturn, 1) := by decide +kernel
theorem d_law_283 : decode (sk_cc m_law) 283 = .ok (.iload 5, 2) := by decide +kernel
theorem d_law_285 : decode (sk_cc m_law) 285 = .ok (.ifCond .ne 15, 3) := by decide +kernel
theorem d_law_288 : decode (sk_cc m_law) 288 = .ok (.aload_n 3, 1) := by decide +kernel
theorem d_law_289 : decode (sk_cc m_law) 289 = .ok (.iconst 0, 1) := by decide +kernel
theorem d_law_290 : decode (sk_cc m_law) 290 = .ok (.laload, 1) := by decide +kernel
theorem d_law_291 : decode (sk_cc m_law) 291 = .ok (.iload 6, 2) := by decide +kernel
theorem d_law_293 : decode (sk_cc m_law) 293 = .ok (.i2l, 1) := by decide +kernel
theorem d_law_294 : decode (sk_cc m_law) 294 = .ok (.lcmp, 1) := by decide +kernel
theorem d_law_295 : decode (sk_cc m_law) 295 = .ok (.ifCond .eq 5, 3) := by decide +kernel
theorem d_law_298 : decode (sk_cc m_law) 298 = .ok (.iconst 0, 1) := by decide +kernel
theorem d_law_299 : decode (sk_cc m_law) 299 = .ok (.ireturn, 1) := by decide +kernel
theorem d_law_300 : decode (sk_cc m_law) 300 = .ok (.goto 874, 3) := by decide +kernel
theorem d_law_303 : decode (sk_cc m_law) 303 = .ok (.aload_n 1, 1) := by decide +kernel
theorem d_law_304 : decode (sk_cc m_law) 304 = .ok (.aload_n 0, 1) := by decide +kernel
theorem d_law_305 : decode (sk_cc m_law) 305 = .ok (.iload 4, 2) := by decide +kernel
theorem d_law_307 : decode (sk_cc m_law) 307 = .ok (.iconst 1, 1) := by decide +kernel
theorem d_law_308 : decode (sk_cc m_law) 308 = .ok (.iadd, 1) := by decide +kernel
theorem d_law_309 : decode (sk_cc m_law) 309 = .ok (.iaload, 1) := by decide +kernel
theorem d_law_310 : decode (sk_cc m_law) 310 = .ok (.aload_n 3, 1) := by decide +kernel
theorem d_law_311 : decode (sk_cc m_law) 311 = .ok (.invokestatic 86, 3) := by decide +kernel
theorem d_law_314 : decode (sk_cc m_law) 314 = .ok (.istore 5, 2) := by decide +kernel
theorem d_law_316 : decode (sk_cc m_law) 316 = .ok (.aload_n 2, 1) := by decide +kernel
theorem d_law_317 : decode (sk_cc m_law) 317 = .ok (.aload_n 0, 1) := by decide +kernel
theorem d_law_318 : decode (sk_cc m_law) 318 = .ok (.iload 4, 2) := by decide +kernel
theorem d_law_320 : decode (sk_cc m_law) 320 = .ok (.iconst 1, 1) := by decide +kernel
theorem d_law_321 : decode (sk_cc m_law) 321 = .ok (.iadd, 1) := by decide +kernel
theorem d_law_322 : decode (sk_cc m_law) 322 = .ok (.iaload, 1) := by decide +kernel
theorem d_law_323 : decode (sk_cc m_law) 323 = .ok (.invokevirtual 89, 3) := by decide +kernel
theorem d_law_326 : decode (sk_cc m_law) 326 = .ok (.istore 6, 2) := by decide +kernel
theorem d_law_328 : decode (sk_cc m_law) 328 = .ok (.aload_n 2, 1) := by decide +kernel
theorem d_law_329 : decode (sk_cc m_law) 329 = .ok (.invokevirtual 78, 3) := by decide +kernel
theorem d_law_332 : decode (sk_cc m_law) 332 = .ok (.iload 5, 2) := by decide +kernel
theorem d_law_334 : decode (sk_cc m_law) 334 = .ok (.if_icmp .eq 5, 3) := by decide +kernel
theorem d_law_337 : decode (sk_cc m_law) 337 = .ok (.iconst 0, 1) := by decide +kernel
theorem d_law_338 : decode (sk_cc m_law) 338 = .ok (.ireturn, 1) := by decide +kernel
theorem d_law_339 : decode (sk_cc m_law) 339 = .ok (.iload 5, 2) := by decide +kernel
theorem d_law_341 : decode (sk_cc m_law) 341 = .ok (.ifCond .ne 15, 3) := by decide +kernel
theorem d_law_344 : decode (sk_cc m_law) 344 = .ok (.aload_n 3, 1) := by decide +kernel
theorem d_law_345 : decode (sk_cc m_law) 345 = .ok (.iconst 0, 1) := by decide +kernel
theorem d_law_346 : decode (sk_cc m_law) 346 = .ok (.laload, 1) := by decide +kernel
theorem d_law_347 : decode (sk_cc m_law) 347 = .ok (.iload 6, 2) := by decide +kernel
theorem d_law_349 : decode (sk_cc m_law) 349 = .ok (.i2l, 1) := by decide +kernel
theorem d_law_350 : decode (sk_cc m_law) 350 = .ok (.lcmp, 1) := by decide +kernel
theorem d_law_351 : decode (sk_cc m_law) 351 = .ok (.ifCond .eq 5, 3) := by decide +kernel
theorem d_law_354 : decode (sk_cc m_law) 354 = .ok (.iconst 0, 1) := by decide +kernel
theorem d_law_355 : decode (sk_cc m_law) 355 = .ok (.ireturn, 1) := by decide +kernel
theorem d_law_356 : decode (sk_cc m_law) 356 = .ok (.goto 818, 3) := by decide +kernel
theorem d_law_359 : decode (sk_cc m_law) 359 = .ok (.aload_n 1, 1) := by decide +kernel
theorem d_law_360 : decode (sk_cc m_law) 360 = .ok (.aload_n 0, 1) := by decide +kernel
theorem d_law_361 : decode (sk_cc m_law) 361 = .ok (.iload 4, 2) := by decide +kernel
theorem d_law_363 : decode (sk_cc m_law) 363 = .ok (.iconst 1, 1) := by decide +kernel
theorem d_law_364 : decode (sk_cc m_law) 364 = .ok (.iadd, 1) := by decide +kernel
theorem d_law_365 : decode (sk_cc m_law) 365 = .ok (.iaload, 1) := by decide +kernel
theorem d_law_366 : decode (sk_cc m_law) 366 = .ok (.aload_n 0, 1) := by decide +kernel
theorem d_law_367 : decode (sk_cc m_law) 367 = .ok (.iload 4, 2) := by decide +kernel
theorem d_law_369 : decode (sk_cc m_law) 369 = .ok (.iconst 2, 1) := by decide +kernel
theorem d_law_370 : decode (sk_cc m_law) 370 = .ok (.iadd, 1) := by decide +kernel
theorem d_law_371 : decode (sk_cc m_law) 371 = .ok (.iaload, 1) := by decide +kernel
theorem d_law_372 : decode (sk_cc m_law) 372 = .ok (.invokestatic 90, 3) := by decide +kernel
theorem d_law_375 : decode (sk_cc m_law) 375 = .ok (.istore 5, 2) := by decide +kernel
theorem d_law_377 : decode (sk_cc m_law) 377 = .ok (.aload_n 2, 1) := by decide +kernel
theorem d_law_378 : decode (sk_cc m_law) 378 = .ok (.aload_n 0, 1) := by decide +kernel
theorem d_law_379 : decode (sk_cc m_law) 379 = .ok (.iload 4, 2) := by decide +kernel
theorem d_law_381 : decode (sk_cc m_law) 381 = .ok (.iconst 1, 1) := by decide +kernel
theorem d_law_382 : decode (sk_cc m_law) 382 = .ok (.iadd, 1) := by decide +kernel
theorem d_law_383 : decode (sk_cc m_law) 383 = .ok (.iaload, 1) := by decide +kernel
theorem d_law_384 : decode (sk_cc m_law) 384 = .ok (.aload_n 0, 1) := by decide +kernel
theorem d_law_385 : decode (sk_cc m_law) 385 = .ok (.iload 4, 2) := by decide +kernel
theorem d_law_387 : decode (sk_cc m_law) 387 = .ok (.iconst 2, 1) := by decide +kernel
theorem d_law_388 : decode (sk_cc m_law) 388 = .ok (.iadd, 1) := by decide +kernel
theorem d_law_389 : decode (sk_cc m_law) 389 = .ok (.iaload, 1) := by decide +kernel
theorem d_law_390 : decode (sk_cc m_law) 390 = .ok (.invokevirtual 93, 3) := by decide +kernel
theorem d_law_393 : decode (sk_cc m_law) 393 = .ok (.aload_n 2, 1) := by decide +kernel
theorem d_law_394 : decode (sk_cc m_law) 394 = .ok (.invokevirtual 78, 3) := by decide +kernel
theorem d_law_397 : decode (sk_cc m_law) 397 = .ok (.iload 5, 2) := by decide +kernel
theorem d_law_399 : decode (sk_cc m_law) 399 = .ok (.if_icmp .eq 5, 3) := by decide +kernel
theorem d_law_402 : decode (sk_cc m_law) 402 = .ok (.iconst 0, 1) := by decide +kernel
theorem d_law_403 : decode (sk_cc m_law) 403 = .ok (.ireturn, 1) := by decide +kernel
theorem d_law_404 : decode (sk_cc m_law) 404 = .ok (.goto 770, 3) := by decide +kernel
theorem d_law_407 : decode (sk_cc m_law) 407 = .ok (.aload_n 1, 1) := by decide +kernel
theorem d_law_408 : decode (sk_cc m_law) 408 = .ok (.aload_n 0, 1) := by decide +kernel
theorem d_law_409 : decode (sk_cc m_law) 409 = .ok (.iload 4, 2) := by decide +kernel
theorem d_law_411 : decode (sk_cc m_law) 411 = .ok (.iconst 1, 1) := by decide +kernel
theorem d_law_412 : decode (sk_cc m_law) 412 = .ok (.iadd, 1) := by decide +kernel
theorem d_law_413 : decode (sk_cc m_law) 413 = .ok (.iaload, 1) := by decide +kernel
theorem d_law_414 : decode (sk_cc m_law) 414 = .ok (.aload_n 3, 1) := by decide +kernel
theorem d_law_415 : decode (sk_cc m_law) 415 = .ok (.invokestatic 94, 3) := by decide +kernel
theorem d_law_418 : decode (sk_cc m_law) 418 = .ok (.istore 5, 2) := by decide +kernel
theorem d_law_420 : decode (sk_cc m_law) 420 = .ok (.aload_n 2, 1) := by decide +kernel
theorem d_law_421 : decode (sk_cc m_law) 421 = .ok (.aload_n 0, 1) := by decide +kernel
theorem d_law_422 : decode (sk_cc m_law) 422 = .ok (.iload 4, 2) := by decide +kernel
theorem d_law_424 : decode (sk_cc m_law) 424 = .ok (.iconst 1, 1) := by decide +kernel
theorem d_law_425 : decode (sk_cc m_law) 425 = .ok (.iadd, 1) := by decide +kernel
theorem d_law_426 : decode (sk_cc m_law) 426 = .ok (.iaload, 1) := by decide +kernel
theorem d_law_427 : decode (sk_cc m_law) 427 = .ok (.invokevirtual 96, 3) := by decide +kernel
theorem d_law_430 : decode (sk_cc m_law) 430 = .ok (.istore 6, 2) := by decide +kernel
theorem d_law_432 : decode (sk_cc m_law) 432 = .ok (.aload_n 2, 1) := by decide +kernel
theorem d_law_433 : decode (sk_cc m_law) 433 = .ok (.invokevirtual 78, 3) := by decide +kernel
theorem d_law_436 : decode (sk_cc m_law) 436 = .ok (.iload 5, 2) := by decide +kernel
theorem d_law_438 : decode (sk_cc m_law) 438 = .ok (.if_icmp .eq 5, 3) := by decide +kernel
theorem d_law_441 : decode (sk_cc m_law) 441 = .ok (.iconst 0, 1) := by decide +kernel
theorem d_law_442 : decode (sk_cc m_law) 442 = .ok (.ireturn, 1) := by decide +kernel
theorem d_law_443 : decode (sk_cc m_law) 443 = .ok (.iload 5, 2) := by decide +kernel
theorem d_law_445 : decode (sk_cc m_law) 445 = .ok (.ifCond .ne 15, 3) := by decide +kernel
theorem d_law_448 : decode (sk_cc m_law) 448 = .ok (.aload_n 3, 1) := by decide +kernel
theorem d_law_449 : decode (sk_cc m_law) 449 = .ok (.iconst 0, 1) := by decide +kernel
theorem d_law_450 : decode (sk_cc m_law) 450 = .ok (.laload, 1) := by decide +kernel
theorem d_law_451 : decode (sk_cc m_law) 451 = .ok (.iload 6, 2) := by decide +kernel
theorem d_law_453 : decode (sk_cc m_law) 453 = .ok (.i2l, 1) := by decide +kernel
theorem d_law_454 : decode (sk_cc m_law) 454 = .ok (.lcmp, 1) := by decide +kernel
theorem d_law_455 : decode (sk_cc m_law) 455 = .ok (.ifCond .eq 5, 3) := by decide +kernel
theorem d_law_458 : decode (sk_cc m_law) 458 = .ok (.iconst 0, 1) := by decide +kernel
theorem d_law_459 : decode (sk_cc m_law) 459 = .ok (.ireturn, 1) := by decide +kernel
theorem d_law_460 : decode (sk_cc m_law) 460 = .ok (.goto 714, 3) := by decide +kernel
theorem d_law_463 : decode (sk_cc m_law) 463 = .ok (.aload_n 1, 1) := by decide +kernel
theorem d_law_464 : decode (sk_cc m_law) 464 = .ok (.aload_n 0, 1) := by decide +kernel
theorem d_law_465 : decode (sk_cc m_law) 465 = .ok (.iload 4, 2) := by decide +kernel
theorem d_law_467 : decode (sk_cc m_law) 467 = .ok (.iconst 1, 1) := by decide +kernel
theorem d_law_468 : decode (sk_cc m_law) 468 = .ok (.iadd, 1) := by decide +kernel
theorem d_law_469 : decode (sk_cc m_law) 469 = .ok (.iaload, 1) := by decide +kernel
theorem d_law_470 : decode (sk_cc m_law) 470 = .ok (.aload_n 0, 1) := by decide +kernel
theorem d_law_471 : decode (sk_cc m_law) 471 = .ok (.iload 4, 2) := by decide +kernel
theorem d_law_473 : decode (sk_cc m_law) 473 = .ok (.iconst 2, 1) := by decide +kernel
theorem d_law_474 : decode (sk_cc m_law) 474 = .ok (.iadd, 1) := by decide +kernel
theorem d_law_475 : decode (sk_cc m_law) 475 = .ok (.iaload, 1) := by decide +kernel
theorem d_law_476 : decode (sk_cc m_law) 476 = .ok (.aload_n 0, 1) := by decide +kernel
theorem d_law_477 : decode (sk_cc m_law) 477 = .ok (.iload 4, 2) := by decide +kernel
theorem d_law_479 : decode (sk_cc m_law) 479 = .ok (.iconst 3, 1) := by decide +kernel
theorem d_law_480 : decode (sk_cc m_law) 480 = .ok (.iadd, 1) := by decide +kernel
theorem d_law_481 : decode (sk_cc m_law) 481 = .ok (.iaload, 1) := by decide +kernel
theorem d_law_482 : decode (sk_cc m_law) 482 = .ok (.aload_n 3, 1) := by decide +kernel
theorem d_law_483 : decode (sk_cc m_law) 483 = .ok (.invokestatic 97, 3) := by decide +kernel
theorem d_law_486 : decode (sk_cc m_law) 486 = .ok (.istore 5, 2) := by decide +kernel
theorem d_law_488 : decode (sk_cc m_law) 488 = .ok (.aload_n 2, 1) := by decide +kernel
theorem d_law_489 : decode (sk_cc m_law) 489 = .ok (.aload_n 0, 1) := by decide +kernel
theorem d_law_490 : decode (sk_cc m_law) 490 = .ok (.iload 4, 2) := by decide +kernel
theorem d_law_492 : decode (sk_cc m_law) 492 = .ok (.iconst 1, 1) := by decide +kernel
theorem d_law_493 : decode (sk_cc m_law) 493 = .ok (.iadd, 1) := by decide +kernel
theorem d_law_494 : decode (sk_cc m_law) 494 = .ok (.iaload, 1) := by decide +kernel
theorem d_law_495 : decode (sk_cc m_law) 495 = .ok (.aload_n 0, 1) := by decide +kernel
theorem d_law_496 : decode (sk_cc m_law) 496 = .ok (.iload 4, 2) := by decide +kernel
theorem d_law_498 : decode (sk_cc m_law) 498 = .ok (.iconst 2, 1) := by decide +kernel
theorem d_law_499 : decode (sk_cc m_law) 499 = .ok (.iadd, 1) := by decide +kernel
theorem d_law_500 : decode (sk_cc m_law) 500 = .ok (.iaload, 1) := by decide +kernel
theorem d_law_501 : decode (sk_cc m_law) 501 = .ok (.aload_n 0, 1) := by decide +kernel
theorem d_law_502 : decode (sk_cc m_law) 502 = .ok (.iload 4, 2) := by decide +kernel
theorem d_law_504 : decode (sk_cc m_law) 504 = .ok (.iconst 3, 1) := by decide +kernel
theorem d_law_505 : decode (sk_cc m_law) 505 = .ok (.iadd, 1) := by decide +kernel
theorem d_law_506 : decode (sk_cc m_law) 506 = .ok (.iaload, 1) := by decide +kernel
theorem d_law_507 : decode (sk_cc m_law) 507 = .ok (.invokevirtual 100, 3) := by decide +kernel
theorem d_law_510 : decode (sk_cc m_law) 510 = .ok (.istore 6, 2) := by decide +kernel
theorem d_law_512 : decode (sk_cc m_law) 512 = .ok (.aload_n 2, 1) := by decide +kernel
theorem d_law_513 : decode (sk_cc m_law) 513 = .ok (.invokevirtual 78, 3) := by decide +kernel
theorem d_law_516 : decode (sk_cc m_law) 516 = .ok (.iload 5, 2) := by decide +kernel
theorem d_law_518 : decode (sk_cc m_law) 518 = .ok (.if_icmp .eq 5, 3) := by decide +kernel
theorem d_law_521 : decode (sk_cc m_law) 521 = .ok (.iconst 0, 1) := by decide +kernel
theorem d_law_522 : decode (sk_cc m_law) 522 = .ok (.ireturn, 1) := by decide +kernel
theorem d_law_523 : decode (sk_cc m_law) 523 = .ok (.iload 5, 2) := by decide +kernel
theorem d_law_525 : decode (sk_cc m_law) 525 = .ok (.ifCond .ne 15, 3) := by decide +kernel
theorem d_law_528 : decode (sk_cc m_law) 528 = .ok (.aload_n 3, 1) := by decide +kernel
theorem d_law_529 : decode (sk_cc m_law) 529 = .ok (.iconst 0, 1) := by decide +kernel
theorem d_law_530 : decode (sk_cc m_law) 530 = .ok (.laload, 1) := by decide +kernel
theorem d_law_531 : decode (sk_cc m_law) 531 = .ok (.iload 6, 2) := by decide +kernel
theorem d_law_533 : decode (sk_cc m_law) 533 = .ok (.i2l, 1) := by decide +kernel
theorem d_law_534 : decode (sk_cc m_law) 534 = .ok (.lcmp, 1) := by decide +kernel
theorem d_law_535 : decode (sk_cc m_law) 535 = .ok (.ifCond .eq 5, 3) := by decide +kernel
theorem d_law_538 : decode (sk_cc m_law) 538 = .ok (.iconst 0, 1) := by decide +kernel
theorem d_law_539 : decode (sk_cc m_law) 539 = .ok (.ireturn, 1) := by decide +kernel
theorem d_law_540 : decode (sk_cc m_law) 540 = .ok (.goto 634, 3) := by decide +kernel
theorem d_law_543 : decode (sk_cc m_law) 543 = .ok (.aload_n 1, 1) := by decide +kernel
theorem d_law_544 : decode (sk_cc m_law) 544 = .ok (.aload_n 0, 1) := by decide +kernel
theorem d_law_545 : decode (sk_cc m_law) 545 = .ok (.iload 4, 2) := by decide +kernel
theorem d_law_547 : decode (sk_cc m_law) 547 = .ok (.iconst 1, 1) := by decide +kernel
theorem d_law_548 : decode (sk_cc m_law) 548 = .ok (.iadd, 1) := by decide +kernel
theorem d_law_549 : decode (sk_cc m_law) 549 = .ok (.iaload, 1) := by decide +kernel
theorem d_law_550 : decode (sk_cc m_law) 550 = .ok (.aload_n 0, 1) := by decide +kernel
theorem d_law_551 : decode (sk_cc m_law) 551 = .ok (.iload 4, 2) := by decide +kernel
theorem d_law_553 : decode (sk_cc m_law) 553 = .ok (.iconst 2, 1) := by decide +kernel
theorem d_law_554 : decode (sk_cc m_law) 554 = .ok (.iadd, 1) := by decide +kernel
theorem d_law_555 : decode (sk_cc m_law) 555 = .ok (.iaload, 1) := by decide +kernel
theorem d_law_556 : decode (sk_cc m_law) 556 = .ok (.aload_n 3, 1) := by decide +kernel
theorem d_law_557 : decode (sk_cc m_law) 557 = .ok (.invokestatic 101, 3) := by decide +kernel
theorem d_law_560 : decode (sk_cc m_law) 560 = .ok (.istore 5, 2) := by decide +kernel
theorem d_law_562 : decode (sk_cc m_law) 562 = .ok (.aload_n 2, 1) := by decide +kernel
theorem d_law_563 : decode (sk_cc m_law) 563 = .ok (.aload_n 0, 1) := by decide +kernel
theorem d_law_564 : decode (sk_cc m_law) 564 = .ok (.iload 4, 2) := by decide +kernel
theorem d_law_566 : decode (sk_cc m_law) 566 = .ok (.iconst 1, 1) := by decide +kernel
theorem d_law_567 : decode (sk_cc m_law) 567 = .ok (.iadd, 1) := by decide +kernel
theorem d_law_568 : decode (sk_cc m_law) 568 = .ok (.iaload, 1) := by decide +kernel
theorem d_law_569 : decode (sk_cc m_law) 569 = .ok (.aload_n 0, 1) := by decide +kernel
theorem d_law_570 : decode (sk_cc m_law) 570 = .ok (.iload 4, 2) := by decide +kernel
theorem d_law_572 : decode (sk_cc m_law) 572 = .ok (.iconst 2, 1) := by decide +kernel
theorem d_law_573 : decode (sk_cc m_law) 573 = .ok (.iadd, 1) := by decide +kernel
theorem d_law_574 : decode (sk_cc m_law) 574 = .ok (.iaload, 1) := by decide +kernel
theorem d_law_575 : decode (sk_cc m_law) 575 = .ok (.invokevirtual 104, 3) := by decide +kernel
theorem d_law_578 : decode (sk_cc m_law) 578 = .ok (.istore 6, 2) := by decide +kernel
theorem d_law_580 : decode (sk_cc m_law) 580 = .ok (.aload_n 2, 1) := by decide +kernel
theorem d_law_581 : decode (sk_cc m_law) 581 = .ok (.invokevirtual 78, 3) := by decide +kernel
theorem d_law_584 : decode (sk_cc m_law) 584 = .ok (.iload 5, 2) := by decide +kernel
theorem d_law_586 : decode (sk_cc m_law) 586 = .ok (.if_icmp .eq 5, 3) := by decide +kernel
theorem d_law_589 : decode (sk_cc m_law) 589 = .ok (.iconst 0, 1) := by decide +kernel
theorem d_law_590 : decode (sk_cc m_law) 590 = .ok (.ireturn, 1) := by decide +kernel
theorem d_law_591 : decode (sk_cc m_law) 591 = .ok (.iload 5, 2) := by decide +kernel
theorem d_law_593 : decode (sk_cc m_law) 593 = .ok (.ifCond .ne 15, 3) := by decide +kernel
theorem d_law_596 : decode (sk_cc m_law) 596 = .ok (.aload_n 3, 1) := by decide +kernel
theorem d_law_597 : decode (sk_cc m_law) 597 = .ok (.iconst 0, 1) := by decide +kernel
theorem d_law_598 : decode (sk_cc m_law) 598 = .ok (.laload, 1) := by decide +kernel
theorem d_law_599 : decode (sk_cc m_law) 599 = .ok (.iload 6, 2) := by decide +kernel
theorem d_law_601 : decode (sk_cc m_law) 601 = .ok (.i2l, 1) := by decide +kernel
theorem d_law_602 : decode (sk_cc m_law) 602 = .ok (.lcmp, 1) := by decide +kernel
theorem d_law_603 : decode (sk_cc m_law) 603 = .ok (.ifCond .eq 5, 3) := by decide +kernel
theorem d_law_606 : decode (sk_cc m_law) 606 = .ok (.iconst 0, 1) := by decide +kernel
theorem d_law_607 : decode (sk_cc m_law) 607 = .ok (.ireturn, 1) := by decide +kernel
theorem d_law_608 : decode (sk_cc m_law) 608 = .ok (.goto 566, 3) := by decide +kernel
theorem d_law_611 : decode (sk_cc m_law) 611 = .ok (.aload_n 1, 1) := by decide +kernel
theorem d_law_612 : decode (sk_cc m_law) 612 = .ok (.aload_n 0, 1) := by decide +kernel
theorem d_law_613 : decode (sk_cc m_law) 613 = .ok (.iload 4, 2) := by decide +kernel
theorem d_law_615 : decode (sk_cc m_law) 615 = .ok (.iconst 1, 1) := by decide +kernel
theorem d_law_616 : decode (sk_cc m_law) 616 = .ok (.iadd, 1) := by decide +kernel
theorem d_law_617 : decode (sk_cc m_law) 617 = .ok (.iaload, 1) := by decide +kernel
theorem d_law_618 : decode (sk_cc m_law) 618 = .ok (.aload_n 0, 1) := by decide +kernel
theorem d_law_619 : decode (sk_cc m_law) 619 = .ok (.iload 4, 2) := by decide +kernel
theorem d_law_621 : decode (sk_cc m_law) 621 = .ok (.iconst 2, 1) := by decide +kernel
theorem d_law_622 : decode (sk_cc m_law) 622 = .ok (.iadd, 1) := by decide +kernel
theorem d_law_623 : decode (sk_cc m_law) 623 = .ok (.iaload, 1) := by decide +kernel
theorem d_law_624 : decode (sk_cc m_law) 624 = .ok (.aload_n 0, 1) := by decide +kernel
theorem d_law_625 : decode (sk_cc m_law) 625 = .ok (.iload 4, 2) := by decide +kernel
theorem d_law_627 : decode (sk_cc m_law) 627 = .ok (.iconst 3, 1) := by decide +kernel
theorem d_law_628 : decode (sk_cc m_law) 628 = .ok (.iadd, 1) := by decide +kernel
theorem d_law_629 : decode (sk_cc m_law) 629 = .ok (.iaload, 1) := by decide +kernel
theorem d_law_630 : decode (sk_cc m_law) 630 = .ok (.invokevirtual 105, 3) := by decide +kernel
theorem d_law_633 : decode (sk_cc m_law) 633 = .ok (.aload_n 2, 1) := by decide +kernel
theorem d_law_634 : decode (sk_cc m_law) 634 = .ok (.aload_n 0, 1) := by decide +kernel
theorem d_law_635 : decode (sk_cc m_law) 635 = .ok (.iload 4, 2) := by decide +kernel
theorem d_law_637 : decode (sk_cc m_law) 637 = .ok (.iconst 1, 1) := by decide +kernel
theorem d_law_638 : decode (sk_cc m_law) 638 = .ok (.iadd, 1) := by decide +kernel
theorem d_law_639 : decode (sk_cc m_law) 639 = .ok (.iaload, 1) := by decide +kernel
theorem d_law_640 : decode (sk_cc m_law) 640 = .ok (.aload_n 0, 1) := by decide +kernel
theorem d_law_641 : decode (sk_cc m_law) 641 = .ok (.iload 4, 2) := by decide +kernel
theorem d_law_643 : decode (sk_cc m_law) 643 = .ok (.iconst 2, 1) := by decide +kernel
theorem d_law_644 : decode (sk_cc m_law) 644 = .ok (.iadd, 1) := by decide +kernel
theorem d_law_645 : decode (sk_cc m_law) 645 = .ok (.iaload, 1) := by decide +kernel
theorem d_law_646 : decode (sk_cc m_law) 646 = .ok (.aload_n 0, 1) := by decide +kernel
theorem d_law_647 : decode (sk_cc m_law) 647 = .ok (.iload 4, 2) := by decide +kernel
theorem d_law_649 : decode (sk_cc m_law) 649 = .ok (.iconst 3, 1) := by decide +kernel
theorem d_law_650 : decode (sk_cc m_law) 650 = .ok (.iadd, 1) := by decide +kernel
theorem d_law_651 : decode (sk_cc m_law) 651 = .ok (.iaload, 1) := by decide +kernel
theorem d_law_652 : decode (sk_cc m_law) 652 = .ok (.invokevirtual 108, 3) := by decide +kernel
theorem d_law_655 : decode (sk_cc m_law) 655 = .ok (.if_icmp .eq 519, 3) := by decide +kernel
theorem d_law_658 : decode (sk_cc m_law) 658 = .ok (.iconst 0, 1) := by decide +kernel
theorem d_law_659 : decode (sk_cc m_law) 659 = .ok (.ireturn, 1) := by decide +kernel
theorem d_law_660 : decode (sk_cc m_law) 660 = .ok (.aload_n 1, 1) := by decide +kernel
theorem d_law_661 : decode (sk_cc m_law) 661 = .ok (.aload_n 0, 1) := by decide +kernel
theorem d_law_662 : decode (sk_cc m_law) 662 = .ok (.iload 4, 2) := by decide +kernel
theorem d_law_664 : decode (sk_cc m_law) 664 = .ok (.iconst 1, 1) := by decide +kernel
theorem d_law_665 : decode (sk_cc m_law) 665 = .ok (.iadd, 1) := by decide +kernel
theorem d_law_666 : decode (sk_cc m_law) 666 = .ok (.iaload, 1) := by decide +kernel
theorem d_law_667 : decode (sk_cc m_law) 667 = .ok (.aload_n 0, 1) := by decide +kernel
theorem d_law_668 : decode (sk_cc m_law) 668 = .ok (.iload 4, 2) := by decide +kernel
theorem d_law_670 : decode (sk_cc m_law) 670 = .ok (.iconst 2, 1) := by decide +kernel
theorem d_law_671 : decode (sk_cc m_law) 671 = .ok (.iadd, 1) := by decide +kernel
theorem d_law_672 : decode (sk_cc m_law) 672 = .ok (.iaload, 1) := by decide +kernel
theorem d_law_673 : decode (sk_cc m_law) 673 = .ok (.aload_n 3, 1) := by decide +kernel
theorem d_law_674 : decode (sk_cc m_law) 674 = .ok (.invokestatic 109, 3) := by decide +kernel
theorem d_law_677 : decode (sk_cc m_law) 677 = .ok (.istore 5, 2) := by decide +kernel
theorem d_law_679 : decode (sk_cc m_law) 679 = .ok (.aload_n 2, 1) := by decide +kernel
theorem d_law_680 : decode (sk_cc m_law) 680 = .ok (.aload_n 0, 1) := by decide +kernel
theorem d_law_681 : decode (sk_cc m_law) 681 = .ok (.iload 4, 2) := by decide +kernel
theorem d_law_683 : decode (sk_cc m_law) 683 = .ok (.iconst 1, 1) := by decide +kernel
theorem d_law_684 : decode (sk_cc m_law) 684 = .ok (.iadd, 1) := by decide +kernel
theorem d_law_685 : decode (sk_cc m_law) 685 = .ok (.iaload, 1) := by decide +kernel
theorem d_law_686 : decode (sk_cc m_law) 686 = .ok (.aload_n 0, 1) := by decide +kernel
theorem d_law_687 : decode (sk_cc m_law) 687 = .ok (.iload 4, 2) := by decide +kernel
theorem d_law_689 : decode (sk_cc m_law) 689 = .ok (.iconst 2, 1) := by decide +kernel
theorem d_law_690 : decode (sk_cc m_law) 690 = .ok (.iadd, 1) := by decide +kernel
theorem d_law_691 : decode (sk_cc m_law) 691 = .ok (.iaload, 1) := by decide +kernel
theorem d_law_692 : decode (sk_cc m_law) 692 = .ok (.invokevirtual 111, 3) := by decide +kernel
theorem d_law_695 : decode (sk_cc m_law) 695 = .ok (.istore 6, 2) := by decide +kernel
theorem d_law_697 : decode (sk_cc m_law) 697 = .ok (.aload_n 2, 1) := by decide +kernel
theorem d_law_698 : decode (sk_cc m_law) 698 = .ok (.invokevirtual 78, 3) := by decide +kernel
theorem d_law_701 : decode (sk_cc m_law) 701 = .ok (.iload 5, 2) := by decide +kernel
theorem d_law_703 : decode (sk_cc m_law) 703 = .ok (.if_icmp .eq 5, 3) := by decide +kernel
theorem d_law_706 : decode (sk_cc m_law) 706 = .ok (.iconst 0, 1) := by decide +kernel
theorem d_law_707 : decode (sk_cc m_law) 707 = .ok (.ireturn, 1) := by decide +kernel
theorem d_law_708 : decode (sk_cc m_law) 708 = .ok (.iload 5, 2) := by decide +kernel
theorem d_law_710 : decode (sk_cc m_law) 710 = .ok (.ifCond .ne 15, 3) := by decide +kernel
theorem d_law_713 : decode (sk_cc m_law) 713 = .ok (.aload_n 3, 1) := by decide +kernel
theorem d_law_714 : decode (sk_cc m_law) 714 = .ok (.iconst 0, 1) := by decide +kernel
theorem d_law_715 : decode (sk_cc m_law) 715 = .ok (.laload, 1) := by decide +kernel
theorem d_law_716 : decode (sk_cc m_law) 716 = .ok (.iload 6, 2) := by decide +kernel
theorem d_law_718 : decode (sk_cc m_law) 718 = .ok (.i2l, 1) := by decide +kernel
theorem d_law_719 : decode (sk_cc m_law) 719 = .ok (.lcmp, 1) := by decide +kernel
theorem d_law_720 : decode (sk_cc m_law) 720 = .ok (.ifCond .eq 5, 3) := by decide +kernel
theorem d_law_723 : decode (sk_cc m_law) 723 = .ok (.iconst 0, 1) := by decide +kernel
theorem d_law_724 : decode (sk_cc m_law) 724 = .ok (.ireturn, 1) := by decide +kernel
theorem d_law_725 : decode (sk_cc m_law) 725 = .ok (.goto 449, 3) := by decide +kernel
theorem d_law_728 : decode (sk_cc m_law) 728 = .ok (.aload_n 1, 1) := by decide +kernel
theorem d_law_729 : decode (sk_cc m_law) 729 = .ok (.aload_n 0, 1) := by decide +kernel
theorem d_law_730 : decode (sk_cc m_law) 730 = .ok (.iload 4, 2) := by decide +kernel
theorem d_law_732 : decode (sk_cc m_law) 732 = .ok (.iconst 1, 1) := by decide +kernel
theorem d_law_733 : decode (sk_cc m_law) 733 = .ok (.iadd, 1) := by decide +kernel
theorem d_law_734 : decode (sk_cc m_law) 734 = .ok (.iaload, 1) := by decide +kernel
theorem d_law_735 : decode (sk_cc m_law) 735 = .ok (.aload_n 3, 1) := by decide +kernel
theorem d_law_736 : decode (sk_cc m_law) 736 = .ok (.invokestatic 112, 3) := by decide +kernel
theorem d_law_739 : decode (sk_cc m_law) 739 = .ok (.istore 5, 2) := by decide +kernel
theorem d_law_741 : decode (sk_cc m_law) 741 = .ok (.aload_n 2, 1) := by decide +kernel
theorem d_law_742 : decode (sk_cc m_law) 742 = .ok (.aload_n 0, 1) := by decide +kernel
theorem d_law_743 : decode (sk_cc m_law) 743 = .ok (.iload 4, 2) := by decide +kernel
theorem d_law_745 : decode (sk_cc m_law) 745 = .ok (.iconst 1, 1) := by decide +kernel
theorem d_law_746 : decode (sk_cc m_law) 746 = .ok (.iadd, 1) := by decide +kernel
theorem d_law_747 : decode (sk_cc m_law) 747 = .ok (.iaload, 1) := by decide +kernel
theorem d_law_748 : decode (sk_cc m_law) 748 = .ok (.invokevirtual 114, 3) := by decide +kernel
theorem d_law_751 : decode (sk_cc m_law) 751 = .ok (.istore 6, 2) := by decide +kernel
theorem d_law_753 : decode (sk_cc m_law) 753 = .ok (.aload_n 2, 1) := by decide +kernel
theorem d_law_754 : decode (sk_cc m_law) 754 = .ok (.invokevirtual 78, 3) := by decide +kernel
theorem d_law_757 : decode (sk_cc m_law) 757 = .ok (.iload 5, 2) := by decide +kernel
theorem d_law_759 : decode (sk_cc m_law) 759 = .ok (.if_icmp .eq 5, 3) := by decide +kernel
theorem d_law_762 : decode (sk_cc m_law) 762 = .ok (.iconst 0, 1) := by decide +kernel
theorem d_law_763 : decode (sk_cc m_law) 763 = .ok (.ireturn, 1) := by decide +kernel
theorem d_law_764 : decode (sk_cc m_law) 764 = .ok (.iload 5, 2) := by decide +kernel
theorem d_law_766 : decode (sk_cc m_law) 766 = .ok (.ifCond .ne 15, 3) := by decide +kernel
theorem d_law_769 : decode (sk_cc m_law) 769 = .ok (.aload_n 3, 1) := by decide +kernel
theorem d_law_770 : decode (sk_cc m_law) 770 = .ok (.iconst 0, 1) := by decide +kernel
theorem d_law_771 : decode (sk_cc m_law) 771 = .ok (.laload, 1) := by decide +kernel
theorem d_law_772 : decode (sk_cc m_law) 772 = .ok (.iload 6, 2) := by decide +kernel
theorem d_law_774 : decode (sk_cc m_law) 774 = .ok (.i2l, 1) := by decide +kernel
theorem d_law_775 : decode (sk_cc m_law) 775 = .ok (.lcmp, 1) := by decide +kernel
theorem d_law_776 : decode (sk_cc m_law) 776 = .ok (.ifCond .eq 5, 3) := by decide +kernel
theorem d_law_779 : decode (sk_cc m_law) 779 = .ok (.iconst 0, 1) := by decide +kernel
theorem d_law_780 : decode (sk_cc m_law) 780 = .ok (.ireturn, 1) := by decide +kernel
theorem d_law_781 : decode (sk_cc m_law) 781 = .ok (.goto 393, 3) := by decide +kernel
theorem d_law_784 : decode (sk_cc m_law) 784 = .ok (.aload_n 1, 1) := by decide +kernel
theorem d_law_785 : decode (sk_cc m_law) 785 = .ok (.aload_n 0, 1) := by decide +kernel
theorem d_law_786 : decode (sk_cc m_law) 786 = .ok (.iload 4, 2) := by decide +kernel
theorem d_law_788 : decode (sk_cc m_law) 788 = .ok (.iconst 1, 1) := by decide +kernel
theorem d_law_789 : decode (sk_cc m_law) 789 = .ok (.iadd, 1) := by decide +kernel
theorem d_law_790 : decode (sk_cc m_law) 790 = .ok (.iaload, 1) := by decide +kernel
theorem d_law_791 : decode (sk_cc m_law) 791 = .ok (.aload_n 3, 1) := by decide +kernel
theorem d_law_792 : decode (sk_cc m_law) 792 = .ok (.invokestatic 115, 3) := by decide +kernel
theorem d_law_795 : decode (sk_cc m_law) 795 = .ok (.istore 5, 2) := by decide +kernel
theorem d_law_797 : decode (sk_cc m_law) 797 = .ok (.aload_n 2, 1) := by decide +kernel
theorem d_law_798 : decode (sk_cc m_law) 798 = .ok (.aload_n 0, 1) := by decide +kernel
theorem d_law_799 : decode (sk_cc m_law) 799 = .ok (.iload 4, 2) := by decide +kernel
theorem d_law_801 : decode (sk_cc m_law) 801 = .ok (.iconst 1, 1) := by decide +kernel
theorem d_law_802 : decode (sk_cc m_law) 802 = .ok (.iadd, 1) := by decide +kernel
theorem d_law_803 : decode (sk_cc m_law) 803 = .ok (.iaload, 1) := by decide +kernel
theorem d_law_804 : decode (sk_cc m_law) 804 = .ok (.invokevirtual 117, 3) := by decide +kernel
theorem d_law_807 : decode (sk_cc m_law) 807 = .ok (.lstore 6, 2) := by decide +kernel
theorem d_law_809 : decode (sk_cc m_law) 809 = .ok (.aload_n 2, 1) := by decide +kernel
theorem d_law_810 : decode (sk_cc m_law) 810 = .ok (.invokevirtual 78, 3) := by decide +kernel
theorem d_law_813 : decode (sk_cc m_law) 813 = .ok (.iload 5, 2) := by decide +kernel
theorem d_law_815 : decode (sk_cc m_law) 815 = .ok (.if_icmp .eq 5, 3) := by decide +kernel
theorem d_law_818 : decode (sk_cc m_law) 818 = .ok (.iconst 0, 1) := by decide +kernel
theorem d_law_819 : decode (sk_cc m_law) 819 = .ok (.ireturn, 1) := by decide +kernel
theorem d_law_820 : decode (sk_cc m_law) 820 = .ok (.iload 5, 2) := by decide +kernel
theorem d_law_822 : decode (sk_cc m_law) 822 = .ok (.ifCond .ne 14, 3) := by decide +kernel
theorem d_law_825 : decode (sk_cc m_law) 825 = .ok (.aload_n 3, 1) := by decide +kernel
theorem d_law_826 : decode (sk_cc m_law) 826 = .ok (.iconst 0, 1) := by decide +kernel
theorem d_law_827 : decode (sk_cc m_law) 827 = .ok (.laload, 1) := by decide +kernel
theorem d_law_828 : decode (sk_cc m_law) 828 = .ok (.lload 6, 2) := by decide +kernel
theorem d_law_830 : decode (sk_cc m_law) 830 = .ok (.lcmp, 1) := by decide +kernel
theorem d_law_831 : decode (sk_cc m_law) 831 = .ok (.ifCond .eq 5, 3) := by decide +kernel
theorem d_law_834 : decode (sk_cc m_law) 834 = .ok (.iconst 0, 1) := by decide +kernel
theorem d_law_835 : decode (sk_cc m_law) 835 = .ok (.ireturn, 1) := by decide +kernel
theorem d_law_836 : decode (sk_cc m_law) 836 = .ok (.goto 338, 3) := by decide +kernel
theorem d_law_839 : decode (sk_cc m_law) 839 = .ok (.aload_n 1, 1) := by decide +kernel
theorem d_law_840 : decode (sk_cc m_law) 840 = .ok (.aload_n 0, 1) := by decide +kernel
theorem d_law_841 : decode (sk_cc m_law) 841 = .ok (.iload 4, 2) := by decide +kernel
theorem d_law_843 : decode (sk_cc m_law) 843 = .ok (.iconst 1, 1) := by decide +kernel
theorem d_law_844 : decode (sk_cc m_law) 844 = .ok (.iadd, 1) := by decide +kernel
theorem d_law_845 : decode (sk_cc m_law) 845 = .ok (.iaload, 1) := by decide +kernel
theorem d_law_846 : decode (sk_cc m_law) 846 = .ok (.aload_n 3, 1) := by decide +kernel
theorem d_law_847 : decode (sk_cc m_law) 847 = .ok (.invokestatic 118, 3) := by decide +kernel
theorem d_law_850 : decode (sk_cc m_law) 850 = .ok (.istore 5, 2) := by decide +kernel
theorem d_law_852 : decode (sk_cc m_law) 852 = .ok (.aload_n 2, 1) := by decide +kernel
theorem d_law_853 : decode (sk_cc m_law) 853 = .ok (.aload_n 0, 1) := by decide +kernel
theorem d_law_854 : decode (sk_cc m_law) 854 = .ok (.iload 4, 2) := by decide +kernel
theorem d_law_856 : decode (sk_cc m_law) 856 = .ok (.iconst 1, 1) := by decide +kernel
theorem d_law_857 : decode (sk_cc m_law) 857 = .ok (.iadd, 1) := by decide +kernel
theorem d_law_858 : decode (sk_cc m_law) 858 = .ok (.iaload, 1) := by decide +kernel
theorem d_law_859 : decode (sk_cc m_law) 859 = .ok (.invokevirtual 120, 3) := by decide +kernel
theorem d_law_862 : decode (sk_cc m_law) 862 = .ok (.istore 6, 2) := by decide +kernel
theorem d_law_864 : decode (sk_cc m_law) 864 = .ok (.aload_n 2, 1) := by decide +kernel
theorem d_law_865 : decode (sk_cc m_law) 865 = .ok (.invokevirtual 78, 3) := by decide +kernel
theorem d_law_868 : decode (sk_cc m_law) 868 = .ok (.iload 5, 2) := by decide +kernel
theorem d_law_870 : decode (sk_cc m_law) 870 = .ok (.if_icmp .eq 5, 3) := by decide +kernel
theorem d_law_873 : decode (sk_cc m_law) 873 = .ok (.iconst 0, 1) := by decide +kernel
theorem d_law_874 : decode (sk_cc m_law) 874 = .ok (.ireturn, 1) := by decide +kernel
theorem d_law_875 : decode (sk_cc m_law) 875 = .ok (.iload 5, 2) := by decide +kernel
theorem d_law_877 : decode (sk_cc m_law) 877 = .ok (.ifCond .ne 15, 3) := by decide +kernel
theorem d_law_880 : decode (sk_cc m_law) 880 = .ok (.aload_n 3, 1) := by decide +kernel
theorem d_law_881 : decode (sk_cc m_law) 881 = .ok (.iconst 0, 1) := by decide +kernel
theorem d_law_882 : decode (sk_cc m_law) 882 = .ok (.laload, 1) := by decide +kernel
theorem d_law_883 : decode (sk_cc m_law) 883 = .ok (.iload 6, 2) := by decide +kernel
theorem d_law_885 : decode (sk_cc m_law) 885 = .ok (.i2l, 1) := by decide +kernel
theorem d_law_886 : decode (sk_cc m_law) 886 = .ok (.lcmp, 1) := by decide +kernel
theorem d_law_887 : decode (sk_cc m_law) 887 = .ok (.ifCond .eq 5, 3) := by decide +kernel
theorem d_law_890 : decode (sk_cc m_law) 890 = .ok (.iconst 0, 1) := by decide +kernel
theorem d_law_891 : decode (sk_cc m_law) 891 = .ok (.ireturn, 1) := by decide +kernel
theorem d_law_892 : decode (sk_cc m_law) 892 = .ok (.goto 282, 3) := by decide +kernel
theorem d_law_895 : decode (sk_cc m_law) 895 = .ok (.aload_n 1, 1) := by decide +kernel
theorem d_law_896 : decode (sk_cc m_law) 896 = .ok (.aload_n 0, 1) := by decide +kernel
theorem d_law_897 : decode (sk_cc m_law) 897 = .ok (.iload 4, 2) := by decide +kernel
theorem d_law_899 : decode (sk_cc m_law) 899 = .ok (.iconst 1, 1) := by decide +kernel
theorem d_law_900 : decode (sk_cc m_law) 900 = .ok (.iadd, 1) := by decide +kernel
theorem d_law_901 : decode (sk_cc m_law) 901 = .ok (.iaload, 1) := by decide +kernel
theorem d_law_902 : decode (sk_cc m_law) 902 = .ok (.aload_n 0, 1) := by decide +kernel
theorem d_law_903 : decode (sk_cc m_law) 903 = .ok (.iload 4, 2) := by decide +kernel
theorem d_law_905 : decode (sk_cc m_law) 905 = .ok (.iconst 2, 1) := by decide +kernel
theorem d_law_906 : decode (sk_cc m_law) 906 = .ok (.iadd, 1) := by decide +kernel
theorem d_law_907 : decode (sk_cc m_law) 907 = .ok (.iaload, 1) := by decide +kernel
theorem d_law_908 : decode (sk_cc m_law) 908 = .ok (.aload_n 0, 1) := by decide +kernel
theorem d_law_909 : decode (sk_cc m_law) 909 = .ok (.iload 4, 2) := by decide +kernel
theorem d_law_911 : decode (sk_cc m_law) 911 = .ok (.iconst 3, 1) := by decide +kernel
theorem d_law_912 : decode (sk_cc m_law) 912 = .ok (.iadd, 1) := by decide +kernel
theorem d_law_913 : decode (sk_cc m_law) 913 = .ok (.iaload, 1) := by decide +kernel
theorem d_law_914 : decode (sk_cc m_law) 914 = .ok (.aload_n 0, 1) := by decide +kernel
theorem d_law_915 : decode (sk_cc m_law) 915 = .ok (.iload 4, 2) := by decide +kernel
theorem d_law_917 : decode (sk_cc m_law) 917 = .ok (.iconst 4, 1) := by decide +kernel
theorem d_law_918 : decode (sk_cc m_law) 918 = .ok (.iadd, 1) := by decide +kernel
theorem d_law_919 : decode (sk_cc m_law) 919 = .ok (.iaload, 1) := by decide +kernel
theorem d_law_920 : decode (sk_cc m_law) 920 = .ok (.aload_n 3, 1) := by decide +kernel
theorem d_law_921 : decode (sk_cc m_law) 921 = .ok (.invokestatic 121, 3) := by decide +kernel
theorem d_law_924 : decode (sk_cc m_law) 924 = .ok (.istore 5, 2) := by decide +kernel
theorem d_law_926 : decode (sk_cc m_law) 926 = .ok (.aload_n 2, 1) := by decide +kernel
theorem d_law_927 : decode (sk_cc m_law) 927 = .ok (.aload_n 0, 1) := by decide +kernel
theorem d_law_928 : decode (sk_cc m_law) 928 = .ok (.iload 4, 2) := by decide +kernel
theorem d_law_930 : decode (sk_cc m_law) 930 = .ok (.iconst 1, 1) := by decide +kernel
theorem d_law_931 : decode (sk_cc m_law) 931 = .ok (.iadd, 1) := by decide +kernel
theorem d_law_932 : decode (sk_cc m_law) 932 = .ok (.iaload, 1) := by decide +kernel
theorem d_law_933 : decode (sk_cc m_law) 933 = .ok (.aload_n 0, 1) := by decide +kernel
theorem d_law_934 : decode (sk_cc m_law) 934 = .ok (.iload 4, 2) := by decide +kernel
theorem d_law_936 : decode (sk_cc m_law) 936 = .ok (.iconst 2, 1) := by decide +kernel
theorem d_law_937 : decode (sk_cc m_law) 937 = .ok (.iadd, 1) := by decide +kernel
theorem d_law_938 : decode (sk_cc m_law) 938 = .ok (.iaload, 1) := by decide +kernel
theorem d_law_939 : decode (sk_cc m_law) 939 = .ok (.aload_n 0, 1) := by decide +kernel
theorem d_law_940 : decode (sk_cc m_law) 940 = .ok (.iload 4, 2) := by decide +kernel
theorem d_law_942 : decode (sk_cc m_law) 942 = .ok (.iconst 3, 1) := by decide +kernel
theorem d_law_943 : decode (sk_cc m_law) 943 = .ok (.iadd, 1) := by decide +kernel
theorem d_law_944 : decode (sk_cc m_law) 944 = .ok (.iaload, 1) := by decide +kernel
theorem d_law_945 : decode (sk_cc m_law) 945 = .ok (.aload_n 0, 1) := by decide +kernel
theorem d_law_946 : decode (sk_cc m_law) 946 = .ok (.iload 4, 2) := by decide +kernel
theorem d_law_948 : decode (sk_cc m_law) 948 = .ok (.iconst 4, 1) := by decide +kernel
theorem d_law_949 : decode (sk_cc m_law) 949 = .ok (.iadd, 1) := by decide +kernel
theorem d_law_950 : decode (sk_cc m_law) 950 = .ok (.iaload, 1) := by decide +kernel
theorem d_law_951 : decode (sk_cc m_law) 951 = .ok (.invokevirtual 123, 3) := by decide +kernel
theorem d_law_954 : decode (sk_cc m_law) 954 = .ok (.istore 6, 2) := by decide +kernel
theorem d_law_956 : decode (sk_cc m_law) 956 = .ok (.aload_n 2, 1) := by decide +kernel
theorem d_law_957 : decode (sk_cc m_law) 957 = .ok (.invokevirtual 78, 3) := by decide +kernel
theorem d_law_960 : decode (sk_cc m_law) 960 = .ok (.iload 5, 2) := by decide +kernel
theorem d_law_962 : decode (sk_cc m_law) 962 = .ok (.if_icmp .eq 5, 3) := by decide +kernel
theorem d_law_965 : decode (sk_cc m_law) 965 = .ok (.iconst 0, 1) := by decide +kernel
theorem d_law_966 : decode (sk_cc m_law) 966 = .ok (.ireturn, 1) := by decide +kernel
theorem d_law_967 : decode (sk_cc m_law) 967 = .ok (.iload 5, 2) := by decide +kernel
theorem d_law_969 : decode (sk_cc m_law) 969 = .ok (.ifCond .ne 15, 3) := by decide +kernel
theorem d_law_972 : decode (sk_cc m_law) 972 = .ok (.aload_n 3, 1) := by decide +kernel
theorem d_law_973 : decode (sk_cc m_law) 973 = .ok (.iconst 0, 1) := by decide +kernel
theorem d_law_974 : decode (sk_cc m_law) 974 = .ok (.laload, 1) := by decide +kernel
theorem d_law_975 : decode (sk_cc m_law) 975 = .ok (.iload 6, 2) := by decide +kernel
theorem d_law_977 : decode (sk_cc m_law) 977 = .ok (.i2l, 1) := by decide +kernel
theorem d_law_978 : decode (sk_cc m_law) 978 = .ok (.lcmp, 1) := by decide +kernel
theorem d_law_979 : decode (sk_cc m_law) 979 = .ok (.ifCond .eq 5, 3) := by decide +kernel
theorem d_law_982 : decode (sk_cc m_law) 982 = .ok (.iconst 0, 1) := by decide +kernel
theorem d_law_983 : decode (sk_cc m_law) 983 = .ok (.ireturn, 1) := by decide +kernel
theorem d_law_984 : decode (sk_cc m_law) 984 = .ok (.goto 190, 3) := by decide +kernel
theorem d_law_987 : decode (sk_cc m_law) 987 = .ok (.aload_n 1, 1) := by decide +kernel
theorem d_law_988 : decode (sk_cc m_law) 988 = .ok (.aload_n 0, 1) := by decide +kernel
theorem d_law_989 : decode (sk_cc m_law) 989 = .ok (.iload 4, 2) := by decide +kernel
theorem d_law_991 : decode (sk_cc m_law) 991 = .ok (.iconst 1, 1) := by decide +kernel
theorem d_law_992 : decode (sk_cc m_law) 992 = .ok (.iadd, 1) := by decide +kernel
theorem d_law_993 : decode (sk_cc m_law) 993 = .ok (.iaload, 1) := by decide +kernel
theorem d_law_994 : decode (sk_cc m_law) 994 = .ok (.aload_n 3, 1) := by decide +kernel
theorem d_law_995 : decode (sk_cc m_law) 995 = .ok (.invokestatic 124, 3) := by decide +kernel
theorem d_law_998 : decode (sk_cc m_law) 998 = .ok (.istore 5, 2) := by decide +kernel
theorem d_law_1000 : decode (sk_cc m_law) 1000 = .ok (.aload_n 2, 1) := by decide +kernel
theorem d_law_1001 : decode (sk_cc m_law) 1001 = .ok (.aload_n 0, 1) := by decide +kernel
theorem d_law_1002 : decode (sk_cc m_law) 1002 = .ok (.iload 4, 2) := by decide +kernel
theorem d_law_1004 : decode (sk_cc m_law) 1004 = .ok (.iconst 1, 1) := by decide +kernel
theorem d_law_1005 : decode (sk_cc m_law) 1005 = .ok (.iadd, 1) := by decide +kernel
theorem d_law_1006 : decode (sk_cc m_law) 1006 = .ok (.iaload, 1) := by decide +kernel
theorem d_law_1007 : decode (sk_cc m_law) 1007 = .ok (.invokevirtual 126, 3) := by decide +kernel
theorem d_law_1010 : decode (sk_cc m_law) 1010 = .ok (.istore 6, 2) := by decide +kernel
theorem d_law_1012 : decode (sk_cc m_law) 1012 = .ok (.aload_n 2, 1) := by decide +kernel
theorem d_law_1013 : decode (sk_cc m_law) 1013 = .ok (.invokevirtual 78, 3) := by decide +kernel
theorem d_law_1016 : decode (sk_cc m_law) 1016 = .ok (.iload 5, 2) := by decide +kernel
theorem d_law_1018 : decode (sk_cc m_law) 1018 = .ok (.if_icmp .eq 5, 3) := by decide +kernel
theorem d_law_1021 : decode (sk_cc m_law) 1021 = .ok (.iconst 0, 1) := by decide +kernel
theorem d_law_1022 : decode (sk_cc m_law) 1022 = .ok (.ireturn, 1) := by decide +kernel
theorem d_law_1023 : decode (sk_cc m_law) 1023 = .ok (.iload 5, 2) := by decide +kernel
theorem d_law_1025 : decode (sk_cc m_law) 1025 = .ok (.ifCond .ne 15, 3) := by decide +kernel
theorem d_law_1028 : decode (sk_cc m_law) 1028 = .ok (.aload_n 3, 1) := by decide +kernel
theorem d_law_1029 : decode (sk_cc m_law) 1029 = .ok (.iconst 0, 1) := by decide +kernel
theorem d_law_1030 : decode (sk_cc m_law) 1030 = .ok (.laload, 1) := by decide +kernel
theorem d_law_1031 : decode (sk_cc m_law) 1031 = .ok (.iload 6, 2) := by decide +kernel
theorem d_law_1033 : decode (sk_cc m_law) 1033 = .ok (.i2l, 1) := by decide +kernel
theorem d_law_1034 : decode (sk_cc m_law) 1034 = .ok (.lcmp, 1) := by decide +kernel
theorem d_law_1035 : decode (sk_cc m_law) 1035 = .ok (.ifCond .eq 5, 3) := by decide +kernel
theorem d_law_1038 : decode (sk_cc m_law) 1038 = .ok (.iconst 0, 1) := by decide +kernel
theorem d_law_1039 : decode (sk_cc m_law) 1039 = .ok (.ireturn, 1) := by decide +kernel
theorem d_law_1040 : decode (sk_cc m_law) 1040 = .ok (.goto 134, 3) := by decide +kernel
theorem d_law_1043 : decode (sk_cc m_law) 1043 = .ok (.aload_n 1, 1) := by decide +kernel
theorem d_law_1044 : decode (sk_cc m_law) 1044 = .ok (.aload_n 0, 1) := by decide +kernel
theorem d_law_1045 : decode (sk_cc m_law) 1045 = .ok (.iload 4, 2) := by decide +kernel
theorem d_law_1047 : decode (sk_cc m_law) 1047 = .ok (.iconst 1, 1) := by decide +kernel
theorem d_law_1048 : decode (sk_cc m_law) 1048 = .ok (.iadd, 1) := by decide +kernel
theorem d_law_1049 : decode (sk_cc m_law) 1049 = .ok (.iaload, 1) := by decide +kernel
theorem d_law_1050 : decode (sk_cc m_law) 1050 = .ok (.invokevirtual 127, 3) := by decide +kernel
theorem d_law_1053 : decode (sk_cc m_law) 1053 = .ok (.aload_n 2, 1) := by decide +kernel
theorem d_law_1054 : decode (sk_cc m_law) 1054 = .ok (.aload_n 0, 1) := by decide +kernel
theorem d_law_1055 : decode (sk_cc m_law) 1055 = .ok (.iload 4, 2) := by decide +kernel
theorem d_law_1057 : decode (sk_cc m_law) 1057 = .ok (.iconst 1, 1) := by decide +kernel
theorem d_law_1058 : decode (sk_cc m_law) 1058 = .ok (.iadd, 1) := by decide +kernel
theorem d_law_1059 : decode (sk_cc m_law) 1059 = .ok (.iaload, 1) := by decide +kernel
theorem d_law_1060 : decode (sk_cc m_law) 1060 = .ok (.invokevirtual 130, 3) := by decide +kernel
theorem d_law_1063 : decode (sk_cc m_law) 1063 = .ok (.if_icmp .eq 111, 3) := by decide +kernel
theorem d_law_1066 : decode (sk_cc m_law) 1066 = .ok (.iconst 0, 1) := by decide +kernel
theorem d_law_1067 : decode (sk_cc m_law) 1067 = .ok (.ireturn, 1) := by decide +kernel
theorem d_law_1068 : decode (sk_cc m_law) 1068 = .ok (.aload_n 1, 1) := by decide +kernel
theorem d_law_1069 : decode (sk_cc m_law) 1069 = .ok (.aload_n 0, 1) := by decide +kernel
theorem d_law_1070 : decode (sk_cc m_law) 1070 = .ok (.iload 4, 2) := by decide +kernel
theorem d_law_1072 : decode (sk_cc m_law) 1072 = .ok (.iconst 1, 1) := by decide +kernel
theorem d_law_1073 : decode (sk_cc m_law) 1073 = .ok (.iadd, 1) := by decide +kernel
theorem d_law_1074 : decode (sk_cc m_law) 1074 = .ok (.iaload, 1) := by decide +kernel
theorem d_law_1075 : decode (sk_cc m_law) 1075 = .ok (.aload_n 0, 1) := by decide +kernel
theorem d_law_1076 : decode (sk_cc m_law) 1076 = .ok (.iload 4, 2) := by decide +kernel
theorem d_law_1078 : decode (sk_cc m_law) 1078 = .ok (.iconst 2, 1) := by decide +kernel
theorem d_law_1079 : decode (sk_cc m_law) 1079 = .ok (.iadd, 1) := by decide +kernel
theorem d_law_1080 : decode (sk_cc m_law) 1080 = .ok (.iaload, 1) := by decide +kernel
theorem d_law_1081 : decode (sk_cc m_law) 1081 = .ok (.aload_n 3, 1) := by decide +kernel
theorem d_law_1082 : decode (sk_cc m_law) 1082 = .ok (.invokestatic 131, 3) := by decide +kernel
theorem d_law_1085 : decode (sk_cc m_law) 1085 = .ok (.istore 5, 2) := by decide +kernel
theorem d_law_1087 : decode (sk_cc m_law) 1087 = .ok (.aload_n 2, 1) := by decide +kernel
theorem d_law_1088 : decode (sk_cc m_law) 1088 = .ok (.aload_n 0, 1) := by decide +kernel
theorem d_law_1089 : decode (sk_cc m_law) 1089 = .ok (.iload 4, 2) := by decide +kernel
theorem d_law_1091 : decode (sk_cc m_law) 1091 = .ok (.iconst 1, 1) := by decide +kernel
theorem d_law_1092 : decode (sk_cc m_law) 1092 = .ok (.iadd, 1) := by decide +kernel
theorem d_law_1093 : decode (sk_cc m_law) 1093 = .ok (.iaload, 1) := by decide +kernel
theorem d_law_1094 : decode (sk_cc m_law) 1094 = .ok (.aload_n 0, 1) := by decide +kernel
theorem d_law_1095 : decode (sk_cc m_law) 1095 = .ok (.iload 4, 2) := by decide +kernel
theorem d_law_1097 : decode (sk_cc m_law) 1097 = .ok (.iconst 2, 1) := by decide +kernel
theorem d_law_1098 : decode (sk_cc m_law) 1098 = .ok (.iadd, 1) := by decide +kernel
theorem d_law_1099 : decode (sk_cc m_law) 1099 = .ok (.iaload, 1) := by decide +kernel
theorem d_law_1100 : decode (sk_cc m_law) 1100 = .ok (.invokevirtual 133, 3) := by decide +kernel
theorem d_law_1103 : decode (sk_cc m_law) 1103 = .ok (.istore 6, 2) := by decide +kernel
theorem d_law_1105 : decode (sk_cc m_law) 1105 = .ok (.aload_n 2, 1) := by decide +kernel
theorem d_law_1106 : decode (sk_cc m_law) 1106 = .ok (.invokevirtual 78, 3) := by decide +kernel
theorem d_law_1109 : decode (sk_cc m_law) 1109 = .ok (.iload 5, 2) := by decide +kernel
theorem d_law_1111 : decode (sk_cc m_law) 1111 = .ok (.if_icmp .eq 5, 3) := by decide +kernel
theorem d_law_1114 : decode (sk_cc m_law) 1114 = .ok (.iconst 0, 1) := by decide +kernel
theorem d_law_1115 : decode (sk_cc m_law) 1115 = .ok (.ireturn, 1) := by decide +kernel
theorem d_law_1116 : decode (sk_cc m_law) 1116 = .ok (.iload 5, 2) := by decide +kernel
theorem d_law_1118 : decode (sk_cc m_law) 1118 = .ok (.ifCond .ne 15, 3) := by decide +kernel
theorem d_law_1121 : decode (sk_cc m_law) 1121 = .ok (.aload_n 3, 1) := by decide +kernel
theorem d_law_1122 : decode (sk_cc m_law) 1122 = .ok (.iconst 0, 1) := by decide +kernel
theorem d_law_1123 : decode (sk_cc m_law) 1123 = .ok (.laload, 1) := by decide +kernel
theorem d_law_1124 : decode (sk_cc m_law) 1124 = .ok (.iload 6, 2) := by decide +kernel
theorem d_law_1126 : decode (sk_cc m_law) 1126 = .ok (.i2l, 1) := by decide +kernel
theorem d_law_1127 : decode (sk_cc m_law) 1127 = .ok (.lcmp, 1) := by decide +kernel
theorem d_law_1128 : decode (sk_cc m_law) 1128 = .ok (.ifCond .eq 5, 3) := by decide +kernel
theorem d_law_1131 : decode (sk_cc m_law) 1131 = .ok (.iconst 0, 1) := by decide +kernel
theorem d_law_1132 : decode (sk_cc m_law) 1132 = .ok (.ireturn, 1) := by decide +kernel
theorem d_law_1133 : decode (sk_cc m_law) 1133 = .ok (.goto 41, 3) := by decide +kernel
theorem d_law_1136 : decode (sk_cc m_law) 1136 = .ok (.aload_n 1, 1) := by decide +kernel
theorem d_law_1137 : decode (sk_cc m_law) 1137 = .ok (.invokevirtual 134, 3) := by decide +kernel
theorem d_law_1140 : decode (sk_cc m_law) 1140 = .ok (.aload_n 2, 1) := by decide +kernel
theorem d_law_1141 : decode (sk_cc m_law) 1141 = .ok (.invokevirtual 137, 3) := by decide +kernel
theorem d_law_1144 : decode (sk_cc m_law) 1144 = .ok (.if_icmp .eq 30, 3) := by decide +kernel
theorem d_law_1147 : decode (sk_cc m_law) 1147 = .ok (.iconst 0, 1) := by decide +kernel
theorem d_law_1148 : decode (sk_cc m_law) 1148 = .ok (.ireturn, 1) := by decide +kernel
theorem d_law_1149 : decode (sk_cc m_law) 1149 = .ok (.aload_n 1, 1) := by decide +kernel
theorem d_law_1150 : decode (sk_cc m_law) 1150 = .ok (.aload_n 0, 1) := by decide +kernel
theorem d_law_1151 : decode (sk_cc m_law) 1151 = .ok (.iload 4, 2) := by decide +kernel
theorem d_law_1153 : decode (sk_cc m_law) 1153 = .ok (.iconst 1, 1) := by decide +kernel
theorem d_law_1154 : decode (sk_cc m_law) 1154 = .ok (.iadd, 1) := by decide +kernel
theorem d_law_1155 : decode (sk_cc m_law) 1155 = .ok (.iaload, 1) := by decide +kernel
theorem d_law_1156 : decode (sk_cc m_law) 1156 = .ok (.invokevirtual 138, 3) := by decide +kernel
theorem d_law_1159 : decode (sk_cc m_law) 1159 = .ok (.aload_n 2, 1) := by decide +kernel
theorem d_law_1160 : decode (sk_cc m_law) 1160 = .ok (.aload_n 0, 1) := by decide +kernel
theorem d_law_1161 : decode (sk_cc m_law) 1161 = .ok (.iload 4, 2) := by decide +kernel
theorem d_law_1163 : decode (sk_cc m_law) 1163 = .ok (.iconst 1, 1) := by decide +kernel
theorem d_law_1164 : decode (sk_cc m_law) 1164 = .ok (.iadd, 1) := by decide +kernel
theorem d_law_1165 : decode (sk_cc m_law) 1165 = .ok (.iaload, 1) := by decide +kernel
theorem d_law_1166 : decode (sk_cc m_law) 1166 = .ok (.invokevirtual 141, 3) := by decide +kernel
theorem d_law_1169 : decode (sk_cc m_law) 1169 = .ok (.if_icmp .eq 5, 3) := by decide +kernel
theorem d_law_1172 : decode (sk_cc m_law) 1172 = .ok (.iconst 0, 1) := by decide +kernel
theorem d_law_1173 : decode (sk_cc m_law) 1173 = .ok (.ireturn, 1) := by decide +kernel
theorem d_law_1174 : decode (sk_cc m_law) 1174 = .ok (.iinc 4 5, 3) := by decide +kernel
theorem d_law_1177 : decode (sk_cc m_law) 1177 = .ok (.goto (-1154), 3) := by decide +kernel
theorem d_law_1180 : decode (sk_cc m_law) 1180 = .ok (.iconst 1, 1) := by decide +kernel
theorem d_law_1181 : decode (sk_cc m_law) 1181 = .ok (.ireturn, 1) := by decide +kernel
