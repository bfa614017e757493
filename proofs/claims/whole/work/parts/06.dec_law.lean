theorem dL_law_0 : decode cL_law 0 = .ok (.new 7, 3) := by decide +kernel
theorem dL_law_3 : decode cL_law 3 = .ok (.dup, 1) := by decide +kernel
theorem dL_law_4 : decode cL_law 4 = .ok (.invokespecial 9, 3) := by decide +kernel
theorem dL_law_7 : decode cL_law 7 = .ok (.astore_n 1, 1) := by decide +kernel
theorem dL_law_8 : decode cL_law 8 = .ok (.new 10, 3) := by decide +kernel
theorem dL_law_11 : decode cL_law 11 = .ok (.dup, 1) := by decide +kernel
theorem dL_law_12 : decode cL_law 12 = .ok (.invokespecial 12, 3) := by decide +kernel
theorem dL_law_15 : decode cL_law 15 = .ok (.astore_n 2, 1) := by decide +kernel
theorem dL_law_16 : decode cL_law 16 = .ok (.iconst 0, 1) := by decide +kernel
theorem dL_law_17 : decode cL_law 17 = .ok (.istore_n 3, 1) := by decide +kernel
theorem dL_law_18 : decode cL_law 18 = .ok (.iload_n 3, 1) := by decide +kernel
theorem dL_law_19 : decode cL_law 19 = .ok (.aload_n 0, 1) := by decide +kernel
theorem dL_law_20 : decode cL_law 20 = .ok (.arraylength, 1) := by decide +kernel
theorem dL_law_21 : decode cL_law 21 = .ok (.bipush 6, 2) := by decide +kernel
theorem dL_law_23 : decode cL_law 23 = .ok (.isub, 1) := by decide +kernel
theorem dL_law_24 : decode cL_law 24 = .ok (.if_icmp .gt 1451, 3) := by decide +kernel
theorem dL_law_27 : decode cL_law 27 = .ok (.aload_n 0, 1) := by decide +kernel
theorem dL_law_28 : decode cL_law 28 = .ok (.iload_n 3, 1) := by decide +kernel
theorem dL_law_29 : decode cL_law 29 = .ok (.iaload, 1) := by decide +kernel
theorem dL_law_30 : decode cL_law 30 = .ok (.bipush 63, 2) := by decide +kernel
theorem dL_law_32 : decode cL_law 32 = .ok (.iand, 1) := by decide +kernel
theorem dL_law_33 : decode cL_law 33 = .ok (.tableswitch 1436 0 39 #[175, 198, 241, 264, 297, 330, 373, 416, 459, 482, 505, 548, 591, 614, 657, 690, 733, 766, 799, 832, 855, 898, 931, 954, 1008, 1031, 1064, 1077, 1090, 1123, 1156, 1199, 1242, 1305, 1328, 1351, 1364, 1377, 1390, 1413], 175) := by decide +kernel
theorem dL_law_208 : decode cL_law 208 = .ok (.aload_n 1, 1) := by decide +kernel
theorem dL_law_209 : decode cL_law 209 = .ok (.aload_n 0, 1) := by decide +kernel
theorem dL_law_210 : decode cL_law 210 = .ok (.iload_n 3, 1) := by decide +kernel
theorem dL_law_211 : decode cL_law 211 = .ok (.iconst 1, 1) := by decide +kernel
theorem dL_law_212 : decode cL_law 212 = .ok (.iadd, 1) := by decide +kernel
theorem dL_law_213 : decode cL_law 213 = .ok (.iaload, 1) := by decide +kernel
theorem dL_law_214 : decode cL_law 214 = .ok (.invokevirtual 13, 3) := by decide +kernel
theorem dL_law_217 : decode cL_law 217 = .ok (.aload_n 2, 1) := by decide +kernel
theorem dL_law_218 : decode cL_law 218 = .ok (.aload_n 0, 1) := by decide +kernel
theorem dL_law_219 : decode cL_law 219 = .ok (.iload_n 3, 1) := by decide +kernel
theorem dL_law_220 : decode cL_law 220 = .ok (.iconst 1, 1) := by decide +kernel
theorem dL_law_221 : decode cL_law 221 = .ok (.iadd, 1) := by decide +kernel
theorem dL_law_222 : decode cL_law 222 = .ok (.iaload, 1) := by decide +kernel
theorem dL_law_223 : decode cL_law 223 = .ok (.invokevirtual 17, 3) := by decide +kernel
theorem dL_law_226 : decode cL_law 226 = .ok (.if_icmp .eq 1243, 3) := by decide +kernel
theorem dL_law_229 : decode cL_law 229 = .ok (.iconst 0, 1) := by decide +kernel
theorem dL_law_230 : decode cL_law 230 = .ok (.ireturn, 1) := by decide +kernel
theorem dL_law_231 : decode cL_law 231 = .ok (.aload_n 1, 1) := by decide +kernel
theorem dL_law_232 : decode cL_law 232 = .ok (.aload_n 0, 1) := by decide +kernel
theorem dL_law_233 : decode cL_law 233 = .ok (.iload_n 3, 1) := by decide +kernel
theorem dL_law_234 : decode cL_law 234 = .ok (.iconst 1, 1) := by decide +kernel
theorem dL_law_235 : decode cL_law 235 = .ok (.iadd, 1) := by decide +kernel
theorem dL_law_236 : decode cL_law 236 = .ok (.iaload, 1) := by decide +kernel
theorem dL_law_237 : decode cL_law 237 = .ok (.aload_n 0, 1) := by decide +kernel
theorem dL_law_238 : decode cL_law 238 = .ok (.iload_n 3, 1) := by decide +kernel
theorem dL_law_239 : decode cL_law 239 = .ok (.iconst 2, 1) := by decide +kernel
theorem dL_law_240 : decode cL_law 240 = .ok (.iadd, 1) := by decide +kernel
theorem dL_law_241 : decode cL_law 241 = .ok (.iaload, 1) := by decide +kernel
theorem dL_law_242 : decode cL_law 242 = .ok (.aload_n 0, 1) := by decide +kernel
theorem dL_law_243 : decode cL_law 243 = .ok (.iload_n 3, 1) := by decide +kernel
theorem dL_law_244 : decode cL_law 244 = .ok (.iconst 3, 1) := by decide +kernel
theorem dL_law_245 : decode cL_law 245 = .ok (.iadd, 1) := by decide +kernel
theorem dL_law_246 : decode cL_law 246 = .ok (.iaload, 1) := by decide +kernel
theorem dL_law_247 : decode cL_law 247 = .ok (.invokevirtual 18, 3) := by decide +kernel
theorem dL_law_250 : decode cL_law 250 = .ok (.aload_n 2, 1) := by decide +kernel
theorem dL_law_251 : decode cL_law 251 = .ok (.aload_n 0, 1) := by decide +kernel
theorem dL_law_252 : decode cL_law 252 = .ok (.iload_n 3, 1) := by decide +kernel
theorem dL_law_253 : decode cL_law 253 = .ok (.iconst 1, 1) := by decide +kernel
theorem dL_law_254 : decode cL_law 254 = .ok (.iadd, 1) := by decide +kernel
theorem dL_law_255 : decode cL_law 255 = .ok (.iaload, 1) := by decide +kernel
theorem dL_law_256 : decode cL_law 256 = .ok (.aload_n 0, 1) := by decide +kernel
theorem dL_law_257 : decode cL_law 257 = .ok (.iload_n 3, 1) := by decide +kernel
theorem dL_law_258 : decode cL_law 258 = .ok (.iconst 2, 1) := by decide +kernel
theorem dL_law_259 : decode cL_law 259 = .ok (.iadd, 1) := by decide +kernel
theorem dL_law_260 : decode cL_law 260 = .ok (.iaload, 1) := by decide +kernel
theorem dL_law_261 : decode cL_law 261 = .ok (.aload_n 0, 1) := by decide +kernel
theorem dL_law_262 : decode cL_law 262 = .ok (.iload_n 3, 1) := by decide +kernel
theorem dL_law_263 : decode cL_law 263 = .ok (.iconst 3, 1) := by decide +kernel
theorem dL_law_264 : decode cL_law 264 = .ok (.iadd, 1) := by decide +kernel
theorem dL_law_265 : decode cL_law 265 = .ok (.iaload, 1) := by decide +kernel
theorem dL_law_266 : decode cL_law 266 = .ok (.invokevirtual 22, 3) := by decide +kernel
theorem dL_law_269 : decode cL_law 269 = .ok (.if_icmp .eq 1200, 3) := by decide +kernel
theorem dL_law_272 : decode cL_law 272 = .ok (.iconst 0, 1) := by decide +kernel
theorem dL_law_273 : decode cL_law 273 = .ok (.ireturn, 1) := by decide +kernel
theorem dL_law_274 : decode cL_law 274 = .ok (.aload_n 1, 1) := by decide +kernel
theorem dL_law_275 : decode cL_law 275 = .ok (.aload_n 0, 1) := by decide +kernel
theorem dL_law_276 : decode cL_law 276 = .ok (.iload_n 3, 1) := by decide +kernel
theorem dL_law_277 : decode cL_law 277 = .ok (.iconst 1, 1) := by decide +kernel
theorem dL_law_278 : decode cL_law 278 = .ok (.iadd, 1) := by decide +kernel
theorem dL_law_279 : decode cL_law 279 = .ok (.iaload, 1) := by decide +kernel
theorem dL_law_280 : decode cL_law 280 = .ok (.invokevirtual 23, 3) := by decide +kernel
theorem dL_law_283 : decode cL_law 283 = .ok (.aload_n 2, 1) := by decide +kernel
theorem dL_law_284 : decode cL_law 284 = .ok (.aload_n 0, 1) := by decide +kernel
theorem dL_law_285 : decode cL_law 285 = .ok (.iload_n 3, 1) := by decide +kernel
theorem dL_law_286 : decode cL_law 286 = .ok (.iconst 1, 1) := by decide +kernel
theorem dL_law_287 : decode cL_law 287 = .ok (.iadd, 1) := by decide +kernel
theorem dL_law_288 : decode cL_law 288 = .ok (.iaload, 1) := by decide +kernel
theorem dL_law_289 : decode cL_law 289 = .ok (.invokevirtual 26, 3) := by decide +kernel
theorem dL_law_292 : decode cL_law 292 = .ok (.if_icmp .eq 1177, 3) := by decide +kernel
theorem dL_law_295 : decode cL_law 295 = .ok (.iconst 0, 1) := by decide +kernel
theorem dL_law_296 : decode cL_law 296 = .ok (.ireturn, 1) := by decide +kernel
theorem dL_law_297 : decode cL_law 297 = .ok (.aload_n 1, 1) := by decide +kernel
theorem dL_law_298 : decode cL_law 298 = .ok (.aload_n 0, 1) := by decide +kernel
theorem dL_law_299 : decode cL_law 299 = .ok (.iload_n 3, 1) := by decide +kernel
theorem dL_law_300 : decode cL_law 300 = .ok (.iconst 1, 1) := by decide +kernel
theorem dL_law_301 : decode cL_law 301 = .ok (.iadd, 1) := by decide +kernel
theorem dL_law_302 : decode cL_law 302 = .ok (.iaload, 1) := by decide +kernel
theorem dL_law_303 : decode cL_law 303 = .ok (.aload_n 0, 1) := by decide +kernel
theorem dL_law_304 : decode cL_law 304 = .ok (.iload_n 3, 1) := by decide +kernel
theorem dL_law_305 : decode cL_law 305 = .ok (.iconst 2, 1) := by decide +kernel
theorem dL_law_306 : decode cL_law 306 = .ok (.iadd, 1) := by decide +kernel
theorem dL_law_307 : decode cL_law 307 = .ok (.iaload, 1) := by decide +kernel
theorem dL_law_308 : decode cL_law 308 = .ok (.invokevirtual 27, 3) := by decide +kernel
theorem dL_law_311 : decode cL_law 311 = .ok (.aload_n 2, 1) := by decide +kernel
theorem dL_law_312 : decode cL_law 312 = .ok (.aload_n 0, 1) := by decide +kernel
theorem dL_law_313 : decode cL_law 313 = .ok (.iload_n 3, 1) := by decide +kernel
theorem dL_law_314 : decode cL_law 314 = .ok (.iconst 1, 1) := by decide +kernel
theorem dL_law_315 : decode cL_law 315 = .ok (.iadd, 1) := by decide +kernel
theorem dL_law_316 : decode cL_law 316 = .ok (.iaload, 1) := by decide +kernel
theorem dL_law_317 : decode cL_law 317 = .ok (.aload_n 0, 1) := by decide +kernel
theorem dL_law_318 : decode cL_law 318 = .ok (.iload_n 3, 1) := by decide +kernel
theorem dL_law_319 : decode cL_law 319 = .ok (.iconst 2, 1) := by decide +kernel
theorem dL_law_320 : decode cL_law 320 = .ok (.iadd, 1) := by decide +kernel
theorem dL_law_321 : decode cL_law 321 = .ok (.iaload, 1) := by decide +kernel
theorem dL_law_322 : decode cL_law 322 = .ok (.invokevirtual 31, 3) := by decide +kernel
theorem dL_law_325 : decode cL_law 325 = .ok (.if_icmp .eq 1144, 3) := by decide +kernel
theorem dL_law_328 : decode cL_law 328 = .ok (.iconst 0, 1) := by decide +kernel
theorem dL_law_329 : decode cL_law 329 = .ok (.ireturn, 1) := by decide +kernel
theorem dL_law_330 : decode cL_law 330 = .ok (.aload_n 1, 1) := by decide +kernel
theorem dL_law_331 : decode cL_law 331 = .ok (.aload_n 0, 1) := by decide +kernel
theorem dL_law_332 : decode cL_law 332 = .ok (.iload_n 3, 1) := by decide +kernel
theorem dL_law_333 : decode cL_law 333 = .ok (.iconst 1, 1) := by decide +kernel
theorem dL_law_334 : decode cL_law 334 = .ok (.iadd, 1) := by decide +kernel
theorem dL_law_335 : decode cL_law 335 = .ok (.iaload, 1) := by decide +kernel
theorem dL_law_336 : decode cL_law 336 = .ok (.aload_n 0, 1) := by decide +kernel
theorem dL_law_337 : decode cL_law 337 = .ok (.iload_n 3, 1) := by decide +kernel
theorem dL_law_338 : decode cL_law 338 = .ok (.iconst 2, 1) := by decide +kernel
theorem dL_law_339 : decode cL_law 339 = .ok (.iadd, 1) := by decide +kernel
theorem dL_law_340 : decode cL_law 340 = .ok (.iaload, 1) := by decide +kernel
theorem dL_law_341 : decode cL_law 341 = .ok (.invokevirtual 32, 3) := by decide +kernel
theorem dL_law_344 : decode cL_law 344 = .ok (.aload_n 2, 1) := by decide +kernel
theorem dL_law_345 : decode cL_law 345 = .ok (.aload_n 0, 1) := by decide +kernel
theorem dL_law_346 : decode cL_law 346 = .ok (.iload_n 3, 1) := by decide +kernel
theorem dL_law_347 : decode cL_law 347 = .ok (.iconst 1, 1) := by decide +kernel
theorem dL_law_348 : decode cL_law 348 = .ok (.iadd, 1) := by decide +kernel
theorem dL_law_349 : decode cL_law 349 = .ok (.iaload, 1) := by decide +kernel
theorem dL_law_350 : decode cL_law 350 = .ok (.aload_n 0, 1) := by decide +kernel
theorem dL_law_351 : decode cL_law 351 = .ok (.iload_n 3, 1) := by decide +kernel
theorem dL_law_352 : decode cL_law 352 = .ok (.iconst 2, 1) := by decide +kernel
theorem dL_law_353 : decode cL_law 353 = .ok (.iadd, 1) := by decide +kernel
theorem dL_law_354 : decode cL_law 354 = .ok (.iaload, 1) := by decide +kernel
theorem dL_law_355 : decode cL_law 355 = .ok (.invokevirtual 35, 3) := by decide +kernel
theorem dL_law_358 : decode cL_law 358 = .ok (.if_icmp .eq 1111, 3) := by decide +kernel
theorem dL_law_361 : decode cL_law 361 = .ok (.iconst 0, 1) := by decide +kernel
theorem dL_law_362 : decode cL_law 362 = .ok (.ireturn, 1) := by decide +kernel
theorem dL_law_363 : decode cL_law 363 = .ok (.aload_n 1, 1) := by decide +kernel
theorem dL_law_364 : decode cL_law 364 = .ok (.aload_n 0, 1) := by decide +kernel
theorem dL_law_365 : decode cL_law 365 = .ok (.iload_n 3, 1) := by decide +kernel
theorem dL_law_366 : decode cL_law 366 = .ok (.iconst 1, 1) := by decide +kernel
theorem dL_law_367 : decode cL_law 367 = .ok (.iadd, 1) := by decide +kernel
theorem dL_law_368 : decode cL_law 368 = .ok (.iaload, 1) := by decide +kernel
theorem dL_law_369 : decode cL_law 369 = .ok (.aload_n 0, 1) := by decide +kernel
theorem dL_law_370 : decode cL_law 370 = .ok (.iload_n 3, 1) := by decide +kernel
theorem dL_law_371 : decode cL_law 371 = .ok (.iconst 2, 1) := by decide +kernel
theorem dL_law_372 : decode cL_law 372 = .ok (.iadd, 1) := by decide +kernel
theorem dL_law_373 : decode cL_law 373 = .ok (.iaload, 1) := by decide +kernel
theorem dL_law_374 : decode cL_law 374 = .ok (.aload_n 0, 1) := by decide +kernel
theorem dL_law_375 : decode cL_law 375 = .ok (.iload_n 3, 1) := by decide +kernel
theorem dL_law_376 : decode cL_law 376 = .ok (.iconst 3, 1) := by decide +kernel
theorem dL_law_377 : decode cL_law 377 = .ok (.iadd, 1) := by decide +kernel
theorem dL_law_378 : decode cL_law 378 = .ok (.iaload, 1) := by decide +kernel
theorem dL_law_379 : decode cL_law 379 = .ok (.invokevirtual 36, 3) := by decide +kernel
theorem dL_law_382 : decode cL_law 382 = .ok (.aload_n 2, 1) := by decide +kernel
theorem dL_law_383 : decode cL_law 383 = .ok (.aload_n 0, 1) := by decide +kernel
theorem dL_law_384 : decode cL_law 384 = .ok (.iload_n 3, 1) := by decide +kernel
theorem dL_law_385 : decode cL_law 385 = .ok (.iconst 1, 1) := by decide +kernel
theorem dL_law_386 : decode cL_law 386 = .ok (.iadd, 1) := by decide +kernel
theorem dL_law_387 : decode cL_law 387 = .ok (.iaload, 1) := by decide +kernel
theorem dL_law_388 : decode cL_law 388 = .ok (.aload_n 0, 1) := by decide +kernel
theorem dL_law_389 : decode cL_law 389 = .ok (.iload_n 3, 1) := by decide +kernel
theorem dL_law_390 : decode cL_law 390 = .ok (.iconst 2, 1) := by decide +kernel
theorem dL_law_391 : decode cL_law 391 = .ok (.iadd, 1) := by decide +kernel
theorem dL_law_392 : decode cL_law 392 = .ok (.iaload, 1) := by decide +kernel
theorem dL_law_393 : decode cL_law 393 = .ok (.aload_n 0, 1) := by decide +kernel
theorem dL_law_394 : decode cL_law 394 = .ok (.iload_n 3, 1) := by decide +kernel
theorem dL_law_395 : decode cL_law 395 = .ok (.iconst 3, 1) := by decide +kernel
theorem dL_law_396 : decode cL_law 396 = .ok (.iadd, 1) := by decide +kernel
theorem dL_law_397 : decode cL_law 397 = .ok (.iaload, 1) := by decide +kernel
theorem dL_law_398 : decode cL_law 398 = .ok (.invokevirtual 39, 3) := by decide +kernel
theorem dL_law_401 : decode cL_law 401 = .ok (.if_icmp .eq 1068, 3) := by decide +kernel
theorem dL_law_404 : decode cL_law 404 = .ok (.iconst 0, 1) := by decide +kernel
theorem dL_law_405 : decode cL_law 405 = .ok (.ireturn, 1) := by decide +kernel
theorem dL_law_406 : decode cL_law 406 = .ok (.aload_n 1, 1) := by decide +kernel
theorem dL_law_407 : decode cL_law 407 = .ok (.aload_n 0, 1) := by decide +kernel
theorem dL_law_408 : decode cL_law 408 = .ok (.iload_n 3, 1) := by decide +kernel
theorem dL_law_409 : decode cL_law 409 = .ok (.iconst 1, 1) := by decide +kernel
theorem dL_law_410 : decode cL_law 410 = .ok (.iadd, 1) := by decide +kernel
theorem dL_law_411 : decode cL_law 411 = .ok (.iaload, 1) := by decide +kernel
theorem dL_law_412 : decode cL_law 412 = .ok (.aload_n 0, 1) := by decide +kernel
theorem dL_law_413 : decode cL_law 413 = .ok (.iload_n 3, 1) := by decide +kernel
theorem dL_law_414 : decode cL_law 414 = .ok (.iconst 2, 1) := by decide +kernel
theorem dL_law_415 : decode cL_law 415 = .ok (.iadd, 1) := by decide +kernel
theorem dL_law_416 : decode cL_law 416 = .ok (.iaload, 1) := by decide +kernel
theorem dL_law_417 : decode cL_law 417 = .ok (.aload_n 0, 1) := by decide +kernel
theorem dL_law_418 : decode cL_law 418 = .ok (.iload_n 3, 1) := by decide +kernel
theorem dL_law_419 : decode cL_law 419 = .ok (.iconst 3, 1) := by decide +kernel
theorem dL_law_420 : decode cL_law 420 = .ok (.iadd, 1) := by decide +kernel
theorem dL_law_421 : decode cL_law 421 = .ok (.iaload, 1) := by decide +kernel
theorem dL_law_422 : decode cL_law 422 = .ok (.invokevirtual 40, 3) := by decide +kernel
theorem dL_law_425 : decode cL_law 425 = .ok (.aload_n 2, 1) := by decide +kernel
theorem dL_law_426 : decode cL_law 426 = .ok (.aload_n 0, 1) := by decide +kernel
theorem dL_law_427 : decode cL_law 427 = .ok (.iload_n 3, 1) := by decide +kernel
theorem dL_law_428 : decode cL_law 428 = .ok (.iconst 1, 1) := by decide +kernel
theorem dL_law_429 : decode cL_law 429 = .ok (.iadd, 1) := by decide +kernel
theorem dL_law_430 : decode cL_law 430 = .ok (.iaload, 1) := by decide +kernel
theorem dL_law_431 : decode cL_law 431 = .ok (.aload_n 0, 1) := by decide +kernel
theorem dL_law_432 : decode cL_law 432 = .ok (.iload_n 3, 1) := by decide +kernel
theorem dL_law_433 : decode cL_law 433 = .ok (.iconst 2, 1) := by decide +kernel
theorem dL_law_434 : decode cL_law 434 = .ok (.iadd, 1) := by decide +kernel
theorem dL_law_435 : decode cL_law 435 = .ok (.iaload, 1) := by decide +kernel
theorem dL_law_436 : decode cL_law 436 = .ok (.aload_n 0, 1) := by decide +kernel
theorem dL_law_437 : decode cL_law 437 = .ok (.iload_n 3, 1) := by decide +kernel
theorem dL_law_438 : decode cL_law 438 = .ok (.iconst 3, 1) := by decide +kernel
theorem dL_law_439 : decode cL_law 439 = .ok (.iadd, 1) := by decide +kernel
theorem dL_law_440 : decode cL_law 440 = .ok (.iaload, 1) := by decide +kernel
theorem dL_law_441 : decode cL_law 441 = .ok (.invokevirtual 43, 3) := by decide +kernel
theorem dL_law_444 : decode cL_law 444 = .ok (.if_icmp .eq 1025, 3) := by decide +kernel
theorem dL_law_447 : decode cL_law 447 = .ok (.iconst 0, 1) := by decide +kernel
theorem dL_law_448 : decode cL_law 448 = .ok (.ireturn, 1) := by decide +kernel
theorem dL_law_449 : decode cL_law 449 = .ok (.aload_n 1, 1) := by decide +kernel
theorem dL_law_450 : decode cL_law 450 = .ok (.aload_n 0, 1) := by decide +kernel
theorem dL_law_451 : decode cL_law 451 = .ok (.iload_n 3, 1) := by decide +kernel
theorem dL_law_452 : decode cL_law 452 = .ok (.iconst 1, 1) := by decide +kernel
theorem dL_law_453 : decode cL_law 453 = .ok (.iadd, 1) := by decide +kernel
theorem dL_law_454 : decode cL_law 454 = .ok (.iaload, 1) := by decide +kernel
theorem dL_law_455 : decode cL_law 455 = .ok (.aload_n 0, 1) := by decide +kernel
theorem dL_law_456 : decode cL_law 456 = .ok (.iload_n 3, 1) := by decide +kernel
theorem dL_law_457 : decode cL_law 457 = .ok (.iconst 2, 1) := by decide +kernel
theorem dL_law_458 : decode cL_law 458 = .ok (.iadd, 1) := by decide +kernel
theorem dL_law_459 : decode cL_law 459 = .ok (.iaload, 1) := by decide +kernel
theorem dL_law_460 : decode cL_law 460 = .ok (.aload_n 0, 1) := by decide +kernel
theorem dL_law_461 : decode cL_law 461 = .ok (.iload_n 3, 1) := by decide +kernel
theorem dL_law_462 : decode cL_law 462 = .ok (.iconst 3, 1) := by decide +kernel
theorem dL_law_463 : decode cL_law 463 = .ok (.iadd, 1) := by decide +kernel
theorem dL_law_464 : decode cL_law 464 = .ok (.iaload, 1) := by decide +kernel
theorem dL_law_465 : decode cL_law 465 = .ok (.invokevirtual 44, 3) := by decide +kernel
theorem dL_law_468 : decode cL_law 468 = .ok (.aload_n 2, 1) := by decide +kernel
theorem dL_law_469 : decode cL_law 469 = .ok (.aload_n 0, 1) := by decide +kernel
theorem dL_law_470 : decode cL_law 470 = .ok (.iload_n 3, 1) := by decide +kernel
theorem dL_law_471 : decode cL_law 471 = .ok (.iconst 1, 1) := by decide +kernel
theorem dL_law_472 : decode cL_law 472 = .ok (.iadd, 1) := by decide +kernel
theorem dL_law_473 : decode cL_law 473 = .ok (.iaload, 1) := by decide +kernel
theorem dL_law_474 : decode cL_law 474 = .ok (.aload_n 0, 1) := by decide +kernel
theorem dL_law_475 : decode cL_law 475 = .ok (.iload_n 3, 1) := by decide +kernel
theorem dL_law_476 : decode cL_law 476 = .ok (.iconst 2, 1) := by decide +kernel
theorem dL_law_477 : decode cL_law 477 = .ok (.iadd, 1) := by decide +kernel
theorem dL_law_478 : decode cL_law 478 = .ok (.iaload, 1) := by decide +kernel
theorem dL_law_479 : decode cL_law 479 = .ok (.aload_n 0, 1) := by decide +kernel
theorem dL_law_480 : decode cL_law 480 = .ok (.iload_n 3, 1) := by decide +kernel
theorem dL_law_481 : decode cL_law 481 = .ok (.iconst 3, 1) := by decide +kernel
theorem dL_law_482 : decode cL_law 482 = .ok (.iadd, 1) := by decide +kernel
theorem dL_law_483 : decode cL_law 483 = .ok (.iaload, 1) := by decide +kernel
theorem dL_law_484 : decode cL_law 484 = .ok (.invokevirtual 47, 3) := by decide +kernel
theorem dL_law_487 : decode cL_law 487 = .ok (.if_icmp .eq 982, 3) := by decide +kernel
theorem dL_law_490 : decode cL_law 490 = .ok (.iconst 0, 1) := by decide +kernel
theorem dL_law_491 : decode cL_law 491 = .ok (.ireturn, 1) := by decide +kernel
theorem dL_law_492 : decode cL_law 492 = .ok (.aload_n 1, 1) := by decide +kernel
theorem dL_law_493 : decode cL_law 493 = .ok (.aload_n 0, 1) := by decide +kernel
theorem dL_law_494 : decode cL_law 494 = .ok (.iload_n 3, 1) := by decide +kernel
theorem dL_law_495 : decode cL_law 495 = .ok (.iconst 1, 1) := by decide +kernel
theorem dL_law_496 : decode cL_law 496 = .ok (.iadd, 1) := by decide +kernel
theorem dL_law_497 : decode cL_law 497 = .ok (.iaload, 1) := by decide +kernel
theorem dL_law_498 : decode cL_law 498 = .ok (.invokevirtual 48, 3) := by decide +kernel
theorem dL_law_501 : decode cL_law 501 = .ok (.aload_n 2, 1) := by decide +kernel
theorem dL_law_502 : decode cL_law 502 = .ok (.aload_n 0, 1) := by decide +kernel
theorem dL_law_503 : decode cL_law 503 = .ok (.iload_n 3, 1) := by decide +kernel
theorem dL_law_504 : decode cL_law 504 = .ok (.iconst 1, 1) := by decide +kernel
theorem dL_law_505 : decode cL_law 505 = .ok (.iadd, 1) := by decide +kernel
theorem dL_law_506 : decode cL_law 506 = .ok (.iaload, 1) := by decide +kernel
theorem dL_law_507 : decode cL_law 507 = .ok (.invokevirtual 51, 3) := by decide +kernel
theorem dL_law_510 : decode cL_law 510 = .ok (.if_icmp .eq 959, 3) := by decide +kernel
theorem dL_law_513 : decode cL_law 513 = .ok (.iconst 0, 1) := by decide +kernel
theorem dL_law_514 : decode cL_law 514 = .ok (.ireturn, 1) := by decide +kernel
theorem dL_law_515 : decode cL_law 515 = .ok (.aload_n 1, 1) := by decide +kernel
theorem dL_law_516 : decode cL_law 516 = .ok (.aload_n 0, 1) := by decide +kernel
theorem dL_law_517 : decode cL_law 517 = .ok (.iload_n 3, 1) := by decide +kernel
theorem dL_law_518 : decode cL_law 518 = .ok (.iconst 1, 1) := by decide +kernel
theorem dL_law_519 : decode cL_law 519 = .ok (.iadd, 1) := by decide +kernel
theorem dL_law_520 : decode cL_law 520 = .ok (.iaload, 1) := by decide +kernel
theorem dL_law_521 : decode cL_law 521 = .ok (.invokevirtual 52, 3) := by decide +kernel
theorem dL_law_524 : decode cL_law 524 = .ok (.aload_n 2, 1) := by decide +kernel
theorem dL_law_525 : decode cL_law 525 = .ok (.aload_n 0, 1) := by decide +kernel
theorem dL_law_526 : decode cL_law 526 = .ok (.iload_n 3, 1) := by decide +kernel
theorem dL_law_527 : decode cL_law 527 = .ok (.iconst 1, 1) := by decide +kernel
theorem dL_law_528 : decode cL_law 528 = .ok (.iadd, 1) := by decide +kernel
theorem dL_law_529 : decode cL_law 529 = .ok (.iaload, 1) := by decide +kernel
theorem dL_law_530 : decode cL_law 530 = .ok (.invokevirtual 55, 3) := by decide +kernel
theorem dL_law_533 : decode cL_law 533 = .ok (.if_icmp .eq 936, 3) := by decide +kernel
theorem dL_law_536 : decode cL_law 536 = .ok (.iconst 0, 1) := by decide +kernel
theorem dL_law_537 : decode cL_law 537 = .ok (.ireturn, 1) := by decide +kernel
theorem dL_law_538 : decode cL_law 538 = .ok (.aload_n 1, 1) := by decide +kernel
theorem dL_law_539 : decode cL_law 539 = .ok (.aload_n 0, 1) := by decide +kernel
theorem dL_law_540 : decode cL_law 540 = .ok (.iload_n 3, 1) := by decide +kernel
theorem dL_law_541 : decode cL_law 541 = .ok (.iconst 1, 1) := by decide +kernel
theorem dL_law_542 : decode cL_law 542 = .ok (.iadd, 1) := by decide +kernel
theorem dL_law_543 : decode cL_law 543 = .ok (.iaload, 1) := by decide +kernel
theorem dL_law_544 : decode cL_law 544 = .ok (.aload_n 0, 1) := by decide +kernel
theorem dL_law_545 : decode cL_law 545 = .ok (.iload_n 3, 1) := by decide +kernel
theorem dL_law_546 : decode cL_law 546 = .ok (.iconst 2, 1) := by decide +kernel
theorem dL_law_547 : decode cL_law 547 = .ok (.iadd, 1) := by decide +kernel
theorem dL_law_548 : decode cL_law 548 = .ok (.iaload, 1) := by decide +kernel
theorem dL_law_549 : decode cL_law 549 = .ok (.aload_n 0, 1) := by decide +kernel
theorem dL_law_550 : decode cL_law 550 = .ok (.iload_n 3, 1) := by decide +kernel
theorem dL_law_551 : decode cL_law 551 = .ok (.iconst 3, 1) := by decide +kernel
theorem dL_law_552 : decode cL_law 552 = .ok (.iadd, 1) := by decide +kernel
theorem dL_law_553 : decode cL_law 553 = .ok (.iaload, 1) := by decide +kernel
theorem dL_law_554 : decode cL_law 554 = .ok (.invokevirtual 56, 3) := by decide +kernel
theorem dL_law_557 : decode cL_law 557 = .ok (.aload_n 2, 1) := by decide +kernel
theorem dL_law_558 : decode cL_law 558 = .ok (.aload_n 0, 1) := by decide +kernel
theorem dL_law_559 : decode cL_law 559 = .ok (.iload_n 3, 1) := by decide +kernel
theorem dL_law_560 : decode cL_law 560 = .ok (.iconst 1, 1) := by decide +kernel
theorem dL_law_561 : decode cL_law 561 = .ok (.iadd, 1) := by decide +kernel
theorem dL_law_562 : decode cL_law 562 = .ok (.iaload, 1) := by decide +kernel
theorem dL_law_563 : decode cL_law 563 = .ok (.aload_n 0, 1) := by decide +kernel
theorem dL_law_564 : decode cL_law 564 = .ok (.iload_n 3, 1) := by decide +kernel
theorem dL_law_565 : decode cL_law 565 = .ok (.iconst 2, 1) := by decide +kernel
theorem dL_law_566 : decode cL_law 566 = .ok (.iadd, 1) := by decide +kernel
theorem dL_law_567 : decode cL_law 567 = .ok (.iaload, 1) := by decide +kernel
theorem dL_law_568 : decode cL_law 568 = .ok (.aload_n 0, 1) := by decide +kernel
theorem dL_law_569 : decode cL_law 569 = .ok (.iload_n 3, 1) := by decide +kernel
theorem dL_law_570 : decode cL_law 570 = .ok (.iconst 3, 1) := by decide +kernel
theorem dL_law_571 : decode cL_law 571 = .ok (.iadd, 1) := by decide +kernel
theorem dL_law_572 : decode cL_law 572 = .ok (.iaload, 1) := by decide +kernel
theorem dL_law_573 : decode cL_law 573 = .ok (.invokevirtual 59, 3) := by decide +kernel
theorem dL_law_576 : decode cL_law 576 = .ok (.if_icmp .eq 893, 3) := by decide +kernel
theorem dL_law_579 : decode cL_law 579 = .ok (.iconst 0, 1) := by decide +kernel
theorem dL_law_580 : decode cL_law 580 = .ok (.ireturn, 1) := by decide +kernel
theorem dL_law_581 : decode cL_law 581 = .ok (.aload_n 1, 1) := by decide +kernel
theorem dL_law_582 : decode cL_law 582 = .ok (.aload_n 0, 1) := by decide +kernel
theorem dL_law_583 : decode cL_law 583 = .ok (.iload_n 3, 1) := by decide +kernel
theorem dL_law_584 : decode cL_law 584 = .ok (.iconst 1, 1) := by decide +kernel
theorem dL_law_585 : decode cL_law 585 = .ok (.iadd, 1) := by decide +kernel
theorem dL_law_586 : decode cL_law 586 = .ok (.iaload, 1) := by decide +kernel
theorem dL_law_587 : decode cL_law 587 = .ok (.aload_n 0, 1) := by decide +kernel
theorem dL_law_588 : decode cL_law 588 = .ok (.iload_n 3, 1) := by decide +kernel
theorem dL_law_589 : decode cL_law 589 = .ok (.iconst 2, 1) := by decide +kernel
theorem dL_law_590 : decode cL_law 590 = .ok (.iadd, 1) := by decide +kernel
theorem dL_law_591 : decode cL_law 591 = .ok (.iaload, 1) := by decide +kernel
theorem dL_law_592 : decode cL_law 592 = .ok (.aload_n 0, 1) := by decide +kernel
theorem dL_law_593 : decode cL_law 593 = .ok (.iload_n 3, 1) := by decide +kernel
theorem dL_law_594 : decode cL_law 594 = .ok (.iconst 3, 1) := by decide +kernel
theorem dL_law_595 : decode cL_law 595 = .ok (.iadd, 1) := by decide +kernel
theorem dL_law_596 : decode cL_law 596 = .ok (.iaload, 1) := by decide +kernel
theorem dL_law_597 : decode cL_law 597 = .ok (.invokevirtual 60, 3) := by decide +kernel
theorem dL_law_600 : decode cL_law 600 = .ok (.aload_n 2, 1) := by decide +kernel
theorem dL_law_601 : decode cL_law 601 = .ok (.aload_n 0, 1) := by decide +kernel
theorem dL_law_602 : decode cL_law 602 = .ok (.iload_n 3, 1) := by decide +kernel
theorem dL_law_603 : decode cL_law 603 = .ok (.iconst 1, 1) := by decide +kernel
theorem dL_law_604 : decode cL_law 604 = .ok (.iadd, 1) := by decide +kernel
theorem dL_law_605 : decode cL_law 605 = .ok (.iaload, 1) := by decide +kernel
theorem dL_law_606 : decode cL_law 606 = .ok (.aload_n 0, 1) := by decide +kernel
theorem dL_law_607 : decode cL_law 607 = .ok (.iload_n 3, 1) := by decide +kernel
theorem dL_law_608 : decode cL_law 608 = .ok (.iconst 2, 1) := by decide +kernel
theorem dL_law_609 : decode cL_law 609 = .ok (.iadd, 1) := by decide +kernel
theorem dL_law_610 : decode cL_law 610 = .ok (.iaload, 1) := by decide +kernel
theorem dL_law_611 : decode cL_law 611 = .ok (.aload_n 0, 1) := by decide +kernel
theorem dL_law_612 : decode cL_law 612 = .ok (.iload_n 3, 1) := by decide +kernel
theorem dL_law_613 : decode cL_law 613 = .ok (.iconst 3, 1) := by decide +kernel
theorem dL_law_614 : decode cL_law 614 = .ok (.iadd, 1) := by decide +kernel
theorem dL_law_615 : decode cL_law 615 = .ok (.iaload, 1) := by decide +kernel
theorem dL_law_616 : decode cL_law 616 = .ok (.invokevirtual 63, 3) := by decide +kernel
theorem dL_law_619 : decode cL_law 619 = .ok (.if_icmp .eq 850, 3) := by decide +kernel
theorem dL_law_622 : decode cL_law 622 = .ok (.iconst 0, 1) := by decide +kernel
theorem dL_law_623 : decode cL_law 623 = .ok (.ireturn, 1) := by decide +kernel
theorem dL_law_624 : decode cL_law 624 = .ok (.aload_n 1, 1) := by decide +kernel
theorem dL_law_625 : decode cL_law 625 = .ok (.aload_n 0, 1) := by decide +kernel
theorem dL_law_626 : decode cL_law 626 = .ok (.iload_n 3, 1) := by decide +kernel
theorem dL_law_627 : decode cL_law 627 = .ok (.iconst 1, 1) := by decide +kernel
theorem dL_law_628 : decode cL_law 628 = .ok (.iadd, 1) := by decide +kernel
theorem dL_law_629 : decode cL_law 629 = .ok (.iaload, 1) := by decide +kernel
theorem dL_law_630 : decode cL_law 630 = .ok (.invokevirtual 64, 3) := by decide +kernel
theorem dL_law_633 : decode cL_law 633 = .ok (.aload_n 2, 1) := by decide +kernel
theorem dL_law_634 : decode cL_law 634 = .ok (.aload_n 0, 1) := by decide +kernel
theorem dL_law_635 : decode cL_law 635 = .ok (.iload_n 3, 1) := by decide +kernel
theorem dL_law_636 : decode cL_law 636 = .ok (.iconst 1, 1) := by decide +kernel
theorem dL_law_637 : decode cL_law 637 = .ok (.iadd, 1) := by decide +kernel
theorem dL_law_638 : decode cL_law 638 = .ok (.iaload, 1) := by decide +kernel
theorem dL_law_639 : decode cL_law 639 = .ok (.invokevirtual 67, 3) := by decide +kernel
theorem dL_law_642 : decode cL_law 642 = .ok (.if_icmp .eq 827, 3) := by decide +kernel
theorem dL_law_645 : decode cL_law 645 = .ok (.iconst 0, 1) := by decide +kernel
theorem dL_law_646 : decode cL_law 646 = .ok (.ireturn, 1) := by decide +kernel
theorem dL_law_647 : decode cL_law 647 = .ok (.aload_n 1, 1) := by decide +kernel
theorem dL_law_648 : decode cL_law 648 = .ok (.aload_n 0, 1) := by decide +kernel
theorem dL_law_649 : decode cL_law 649 = .ok (.iload_n 3, 1) := by decide +kernel
theorem dL_law_650 : decode cL_law 650 = .ok (.iconst 1, 1) := by decide +kernel
theorem dL_law_651 : decode cL_law 651 = .ok (.iadd, 1) := by decide +kernel
theorem dL_law_652 : decode cL_law 652 = .ok (.iaload, 1) := by decide +kernel
theorem dL_law_653 : decode cL_law 653 = .ok (.aload_n 0, 1) := by decide +kernel
theorem dL_law_654 : decode cL_law 654 = .ok (.iload_n 3, 1) := by decide +kernel
theorem dL_law_655 : decode cL_law 655 = .ok (.iconst 2, 1) := by decide +kernel
theorem dL_law_656 : decode cL_law 656 = .ok (.iadd, 1) := by decide +kernel
theorem dL_law_657 : decode cL_law 657 = .ok (.iaload, 1) := by decide +kernel
theorem dL_law_658 : decode cL_law 658 = .ok (.aload_n 0, 1) := by decide +kernel
theorem dL_law_659 : decode cL_law 659 = .ok (.iload_n 3, 1) := by decide +kernel
theorem dL_law_660 : decode cL_law 660 = .ok (.iconst 3, 1) := by decide +kernel
theorem dL_law_661 : decode cL_law 661 = .ok (.iadd, 1) := by decide +kernel
theorem dL_law_662 : decode cL_law 662 = .ok (.iaload, 1) := by decide +kernel
theorem dL_law_663 : decode cL_law 663 = .ok (.invokevirtual 68, 3) := by decide +kernel
theorem dL_law_666 : decode cL_law 666 = .ok (.aload_n 2, 1) := by decide +kernel
theorem dL_law_667 : decode cL_law 667 = .ok (.aload_n 0, 1) := by decide +kernel
theorem dL_law_668 : decode cL_law 668 = .ok (.iload_n 3, 1) := by decide +kernel
theorem dL_law_669 : decode cL_law 669 = .ok (.iconst 1, 1) := by decide +kernel
theorem dL_law_670 : decode cL_law 670 = .ok (.iadd, 1) := by decide +kernel
theorem dL_law_671 : decode cL_law 671 = .ok (.iaload, 1) := by decide +kernel
theorem dL_law_672 : decode cL_law 672 = .ok (.aload_n 0, 1) := by decide +kernel
theorem dL_law_673 : decode cL_law 673 = .ok (.iload_n 3, 1) := by decide +kernel
theorem dL_law_674 : decode cL_law 674 = .ok (.iconst 2, 1) := by decide +kernel
theorem dL_law_675 : decode cL_law 675 = .ok (.iadd, 1) := by decide +kernel
theorem dL_law_676 : decode cL_law 676 = .ok (.iaload, 1) := by decide +kernel
theorem dL_law_677 : decode cL_law 677 = .ok (.aload_n 0, 1) := by decide +kernel
theorem dL_law_678 : decode cL_law 678 = .ok (.iload_n 3, 1) := by decide +kernel
theorem dL_law_679 : decode cL_law 679 = .ok (.iconst 3, 1) := by decide +kernel
theorem dL_law_680 : decode cL_law 680 = .ok (.iadd, 1) := by decide +kernel
theorem dL_law_681 : decode cL_law 681 = .ok (.iaload, 1) := by decide +kernel
theorem dL_law_682 : decode cL_law 682 = .ok (.invokevirtual 71, 3) := by decide +kernel
theorem dL_law_685 : decode cL_law 685 = .ok (.if_icmp .eq 784, 3) := by decide +kernel
theorem dL_law_688 : decode cL_law 688 = .ok (.iconst 0, 1) := by decide +kernel
theorem dL_law_689 : decode cL_law 689 = .ok (.ireturn, 1) := by decide +kernel
theorem dL_law_690 : decode cL_law 690 = .ok (.aload_n 1, 1) := by decide +kernel
theorem dL_law_691 : decode cL_law 691 = .ok (.aload_n 0, 1) := by decide +kernel
theorem dL_law_692 : decode cL_law 692 = .ok (.iload_n 3, 1) := by decide +kernel
theorem dL_law_693 : decode cL_law 693 = .ok (.iconst 1, 1) := by decide +kernel
theorem dL_law_694 : decode cL_law 694 = .ok (.iadd, 1) := by decide +kernel
theorem dL_law_695 : decode cL_law 695 = .ok (.iaload, 1) := by decide +kernel
theorem dL_law_696 : decode cL_law 696 = .ok (.aload_n 0, 1) := by decide +kernel
theorem dL_law_697 : decode cL_law 697 = .ok (.iload_n 3, 1) := by decide +kernel
theorem dL_law_698 : decode cL_law 698 = .ok (.iconst 2, 1) := by decide +kernel
theorem dL_law_699 : decode cL_law 699 = .ok (.iadd, 1) := by decide +kernel
theorem dL_law_700 : decode cL_law 700 = .ok (.iaload, 1) := by decide +kernel
theorem dL_law_701 : decode cL_law 701 = .ok (.invokevirtual 72, 3) := by decide +kernel
theorem dL_law_704 : decode cL_law 704 = .ok (.aload_n 2, 1) := by decide +kernel
theorem dL_law_705 : decode cL_law 705 = .ok (.aload_n 0, 1) := by decide +kernel
theorem dL_law_706 : decode cL_law 706 = .ok (.iload_n 3, 1) := by decide +kernel
theorem dL_law_707 : decode cL_law 707 = .ok (.iconst 1, 1) := by decide +kernel
theorem dL_law_708 : decode cL_law 708 = .ok (.iadd, 1) := by decide +kernel
theorem dL_law_709 : decode cL_law 709 = .ok (.iaload, 1) := by decide +kernel
theorem dL_law_710 : decode cL_law 710 = .ok (.aload_n 0, 1) := by decide +kernel
theorem dL_law_711 : decode cL_law 711 = .ok (.iload_n 3, 1) := by decide +kernel
theorem dL_law_712 : decode cL_law 712 = .ok (.iconst 2, 1) := by decide +kernel
theorem dL_law_713 : decode cL_law 713 = .ok (.iadd, 1) := by decide +kernel
theorem dL_law_714 : decode cL_law 714 = .ok (.iaload, 1) := by decide +kernel
theorem dL_law_715 : decode cL_law 715 = .ok (.invokevirtual 75, 3) := by decide +kernel
theorem dL_law_718 : decode cL_law 718 = .ok (.if_icmp .eq 751, 3) := by decide +kernel
theorem dL_law_721 : decode cL_law 721 = .ok (.iconst 0, 1) := by decide +kernel
theorem dL_law_722 : decode cL_law 722 = .ok (.ireturn, 1) := by decide +kernel
theorem dL_law_723 : decode cL_law 723 = .ok (.aload_n 1, 1) := by decide +kernel
theorem dL_law_724 : decode cL_law 724 = .ok (.aload_n 0, 1) := by decide +kernel
theorem dL_law_725 : decode cL_law 725 = .ok (.iload_n 3, 1) := by decide +kernel
theorem dL_law_726 : decode cL_law 726 = .ok (.iconst 1, 1) := by decide +kernel
theorem dL_law_727 : decode cL_law 727 = .ok (.iadd, 1) := by decide +kernel
theorem dL_law_728 : decode cL_law 728 = .ok (.iaload, 1) := by decide +kernel
theorem dL_law_729 : decode cL_law 729 = .ok (.aload_n 0, 1) := by decide +kernel
theorem dL_law_730 : decode cL_law 730 = .ok (.iload_n 3, 1) := by decide +kernel
theorem dL_law_731 : decode cL_law 731 = .ok (.iconst 2, 1) := by decide +kernel
theorem dL_law_732 : decode cL_law 732 = .ok (.iadd, 1) := by decide +kernel
theorem dL_law_733 : decode cL_law 733 = .ok (.iaload, 1) := by decide +kernel
theorem dL_law_734 : decode cL_law 734 = .ok (.aload_n 0, 1) := by decide +kernel
theorem dL_law_735 : decode cL_law 735 = .ok (.iload_n 3, 1) := by decide +kernel
theorem dL_law_736 : decode cL_law 736 = .ok (.iconst 3, 1) := by decide +kernel
theorem dL_law_737 : decode cL_law 737 = .ok (.iadd, 1) := by decide +kernel
theorem dL_law_738 : decode cL_law 738 = .ok (.iaload, 1) := by decide +kernel
theorem dL_law_739 : decode cL_law 739 = .ok (.invokevirtual 76, 3) := by decide +kernel
theorem dL_law_742 : decode cL_law 742 = .ok (.aload_n 2, 1) := by decide +kernel
theorem dL_law_743 : decode cL_law 743 = .ok (.aload_n 0, 1) := by decide +kernel
theorem dL_law_744 : decode cL_law 744 = .ok (.iload_n 3, 1) := by decide +kernel
theorem dL_law_745 : decode cL_law 745 = .ok (.iconst 1, 1) := by decide +kernel
theorem dL_law_746 : decode cL_law 746 = .ok (.iadd, 1) := by decide +kernel
theorem dL_law_747 : decode cL_law 747 = .ok (.iaload, 1) := by decide +kernel
theorem dL_law_748 : decode cL_law 748 = .ok (.aload_n 0, 1) := by decide +kernel
theorem dL_law_749 : decode cL_law 749 = .ok (.iload_n 3, 1) := by decide +kernel
theorem dL_law_750 : decode cL_law 750 = .ok (.iconst 2, 1) := by decide +kernel
theorem dL_law_751 : decode cL_law 751 = .ok (.iadd, 1) := by decide +kernel
theorem dL_law_752 : decode cL_law 752 = .ok (.iaload, 1) := by decide +kernel
theorem dL_law_753 : decode cL_law 753 = .ok (.aload_n 0, 1) := by decide +kernel
theorem dL_law_754 : decode cL_law 754 = .ok (.iload_n 3, 1) := by decide +kernel
theorem dL_law_755 : decode cL_law 755 = .ok (.iconst 3, 1) := by decide +kernel
theorem dL_law_756 : decode cL_law 756 = .ok (.iadd, 1) := by decide +kernel
theorem dL_law_757 : decode cL_law 757 = .ok (.iaload, 1) := by decide +kernel
theorem dL_law_758 : decode cL_law 758 = .ok (.invokevirtual 79, 3) := by decide +kernel
theorem dL_law_761 : decode cL_law 761 = .ok (.if_icmp .eq 708, 3) := by decide +kernel
theorem dL_law_764 : decode cL_law 764 = .ok (.iconst 0, 1) := by decide +kernel
theorem dL_law_765 : decode cL_law 765 = .ok (.ireturn, 1) := by decide +kernel
theorem dL_law_766 : decode cL_law 766 = .ok (.aload_n 1, 1) := by decide +kernel
theorem dL_law_767 : decode cL_law 767 = .ok (.aload_n 0, 1) := by decide +kernel
theorem dL_law_768 : decode cL_law 768 = .ok (.iload_n 3, 1) := by decide +kernel
theorem dL_law_769 : decode cL_law 769 = .ok (.iconst 1, 1) := by decide +kernel
theorem dL_law_770 : decode cL_law 770 = .ok (.iadd, 1) := by decide +kernel
theorem dL_law_771 : decode cL_law 771 = .ok (.iaload, 1) := by decide +kernel
theorem dL_law_772 : decode cL_law 772 = .ok (.aload_n 0, 1) := by decide +kernel
theorem dL_law_773 : decode cL_law 773 = .ok (.iload_n 3, 1) := by decide +kernel
theorem dL_law_774 : decode cL_law 774 = .ok (.iconst 2, 1) := by decide +kernel
theorem dL_law_775 : decode cL_law 775 = .ok (.iadd, 1) := by decide +kernel
theorem dL_law_776 : decode cL_law 776 = .ok (.iaload, 1) := by decide +kernel
theorem dL_law_777 : decode cL_law 777 = .ok (.invokevirtual 80, 3) := by decide +kernel
theorem dL_law_780 : decode cL_law 780 = .ok (.aload_n 2, 1) := by decide +kernel
theorem dL_law_781 : decode cL_law 781 = .ok (.aload_n 0, 1) := by decide +kernel
theorem dL_law_782 : decode cL_law 782 = .ok (.iload_n 3, 1) := by decide +kernel
theorem dL_law_783 : decode cL_law 783 = .ok (.iconst 1, 1) := by decide +kernel
theorem dL_law_784 : decode cL_law 784 = .ok (.iadd, 1) := by decide +kernel
theorem dL_law_785 : decode cL_law 785 = .ok (.iaload, 1) := by decide +kernel
theorem dL_law_786 : decode cL_law 786 = .ok (.aload_n 0, 1) := by decide +kernel
theorem dL_law_787 : decode cL_law 787 = .ok (.iload_n 3, 1) := by decide +kernel
theorem dL_law_788 : decode cL_law 788 = .ok (.iconst 2, 1) := by decide +kernel
theorem dL_law_789 : decode cL_law 789 = .ok (.iadd, 1) := by decide +kernel
theorem dL_law_790 : decode cL_law 790 = .ok (.iaload, 1) := by decide +kernel
theorem dL_law_791 : decode cL_law 791 = .ok (.invokevirtual 83, 3) := by decide +kernel
theorem dL_law_794 : decode cL_law 794 = .ok (.if_icmp .eq 675, 3) := by decide +kernel
theorem dL_law_797 : decode cL_law 797 = .ok (.iconst 0, 1) := by decide +kernel
theorem dL_law_798 : decode cL_law 798 = .ok (.ireturn, 1) := by decide +kernel
theorem dL_law_799 : decode cL_law 799 = .ok (.aload_n 1, 1) := by decide +kernel
theorem dL_law_800 : decode cL_law 800 = .ok (.aload_n 0, 1) := by decide +kernel
theorem dL_law_801 : decode cL_law 801 = .ok (.iload_n 3, 1) := by decide +kernel
theorem dL_law_802 : decode cL_law 802 = .ok (.iconst 1, 1) := by decide +kernel
theorem dL_law_803 : decode cL_law 803 = .ok (.iadd, 1) := by decide +kernel
theorem dL_law_804 : decode cL_law 804 = .ok (.iaload, 1) := by decide +kernel
theorem dL_law_805 : decode cL_law 805 = .ok (.aload_n 0, 1) := by decide +kernel
theorem dL_law_806 : decode cL_law 806 = .ok (.iload_n 3, 1) := by decide +kernel
theorem dL_law_807 : decode cL_law 807 = .ok (.iconst 2, 1) := by decide +kernel
theorem dL_law_808 : decode cL_law 808 = .ok (.iadd, 1) := by decide +kernel
theorem dL_law_809 : decode cL_law 809 = .ok (.iaload, 1) := by decide +kernel
theorem dL_law_810 : decode cL_law 810 = .ok (.invokevirtual 84, 3) := by decide +kernel
theorem dL_law_813 : decode cL_law 813 = .ok (.aload_n 2, 1) := by decide +kernel
theorem dL_law_814 : decode cL_law 814 = .ok (.aload_n 0, 1) := by decide +kernel
theorem dL_law_815 : decode cL_law 815 = .ok (.iload_n 3, 1) := by decide +kernel
theorem dL_law_816 : decode cL_law 816 = .ok (.iconst 1, 1) := by decide +kernel
theorem dL_law_817 : decode cL_law 817 = .ok (.iadd, 1) := by decide +kernel
theorem dL_law_818 : decode cL_law 818 = .ok (.iaload, 1) := by decide +kernel
theorem dL_law_819 : decode cL_law 819 = .ok (.aload_n 0, 1) := by decide +kernel
theorem dL_law_820 : decode cL_law 820 = .ok (.iload_n 3, 1) := by decide +kernel
theorem dL_law_821 : decode cL_law 821 = .ok (.iconst 2, 1) := by decide +kernel
theorem dL_law_822 : decode cL_law 822 = .ok (.iadd, 1) := by decide +kernel
theorem dL_law_823 : decode cL_law 823 = .ok (.iaload, 1) := by decide +kernel
theorem dL_law_824 : decode cL_law 824 = .ok (.invokevirtual 87, 3) := by decide +kernel
theorem dL_law_827 : decode cL_law 827 = .ok (.if_icmp .eq 642, 3) := by decide +kernel
theorem dL_law_830 : decode cL_law 830 = .ok (.iconst 0, 1) := by decide +kernel
theorem dL_law_831 : decode cL_law 831 = .ok (.ireturn, 1) := by decide +kernel
theorem dL_law_832 : decode cL_law 832 = .ok (.aload_n 1, 1) := by decide +kernel
theorem dL_law_833 : decode cL_law 833 = .ok (.aload_n 0, 1) := by decide +kernel
theorem dL_law_834 : decode cL_law 834 = .ok (.iload_n 3, 1) := by decide +kernel
theorem dL_law_835 : decode cL_law 835 = .ok (.iconst 1, 1) := by decide +kernel
theorem dL_law_836 : decode cL_law 836 = .ok (.iadd, 1) := by decide +kernel
theorem dL_law_837 : decode cL_law 837 = .ok (.iaload, 1) := by decide +kernel
theorem dL_law_838 : decode cL_law 838 = .ok (.aload_n 0, 1) := by decide +kernel
theorem dL_law_839 : decode cL_law 839 = .ok (.iload_n 3, 1) := by decide +kernel
theorem dL_law_840 : decode cL_law 840 = .ok (.iconst 2, 1) := by decide +kernel
theorem dL_law_841 : decode cL_law 841 = .ok (.iadd, 1) := by decide +kernel
theorem dL_law_842 : decode cL_law 842 = .ok (.iaload, 1) := by decide +kernel
theorem dL_law_843 : decode cL_law 843 = .ok (.invokevirtual 88, 3) := by decide +kernel
theorem dL_law_846 : decode cL_law 846 = .ok (.aload_n 2, 1) := by decide +kernel
theorem dL_law_847 : decode cL_law 847 = .ok (.aload_n 0, 1) := by decide +kernel
theorem dL_law_848 : decode cL_law 848 = .ok (.iload_n 3, 1) := by decide +kernel
theorem dL_law_849 : decode cL_law 849 = .ok (.iconst 1, 1) := by decide +kernel
theorem dL_law_850 : decode cL_law 850 = .ok (.iadd, 1) := by decide +kernel
theorem dL_law_851 : decode cL_law 851 = .ok (.iaload, 1) := by decide +kernel
theorem dL_law_852 : decode cL_law 852 = .ok (.aload_n 0, 1) := by decide +kernel
theorem dL_law_853 : decode cL_law 853 = .ok (.iload_n 3, 1) := by decide +kernel
theorem dL_law_854 : decode cL_law 854 = .ok (.iconst 2, 1) := by decide +kernel
theorem dL_law_855 : decode cL_law 855 = .ok (.iadd, 1) := by decide +kernel
theorem dL_law_856 : decode cL_law 856 = .ok (.iaload, 1) := by decide +kernel
theorem dL_law_857 : decode cL_law 857 = .ok (.invokevirtual 91, 3) := by decide +kernel
theorem dL_law_860 : decode cL_law 860 = .ok (.if_icmp .eq 609, 3) := by decide +kernel
theorem dL_law_863 : decode cL_law 863 = .ok (.iconst 0, 1) := by decide +kernel
theorem dL_law_864 : decode cL_law 864 = .ok (.ireturn, 1) := by decide +kernel
theorem dL_law_865 : decode cL_law 865 = .ok (.aload_n 1, 1) := by decide +kernel
theorem dL_law_866 : decode cL_law 866 = .ok (.aload_n 0, 1) := by decide +kernel
theorem dL_law_867 : decode cL_law 867 = .ok (.iload_n 3, 1) := by decide +kernel
theorem dL_law_868 : decode cL_law 868 = .ok (.iconst 1, 1) := by decide +kernel
theorem dL_law_869 : decode cL_law 869 = .ok (.iadd, 1) := by decide +kernel
theorem dL_law_870 : decode cL_law 870 = .ok (.iaload, 1) := by decide +kernel
theorem dL_law_871 : decode cL_law 871 = .ok (.invokevirtual 92, 3) := by decide +kernel
theorem dL_law_874 : decode cL_law 874 = .ok (.aload_n 2, 1) := by decide +kernel
theorem dL_law_875 : decode cL_law 875 = .ok (.aload_n 0, 1) := by decide +kernel
theorem dL_law_876 : decode cL_law 876 = .ok (.iload_n 3, 1) := by decide +kernel
theorem dL_law_877 : decode cL_law 877 = .ok (.iconst 1, 1) := by decide +kernel
theorem dL_law_878 : decode cL_law 878 = .ok (.iadd, 1) := by decide +kernel
theorem dL_law_879 : decode cL_law 879 = .ok (.iaload, 1) := by decide +kernel
theorem dL_law_880 : decode cL_law 880 = .ok (.invokevirtual 95, 3) := by decide +kernel
theorem dL_law_883 : decode cL_law 883 = .ok (.if_icmp .eq 586, 3) := by decide +kernel
theorem dL_law_886 : decode cL_law 886 = .ok (.iconst 0, 1) := by decide +kernel
theorem dL_law_887 : decode cL_law 887 = .ok (.ireturn, 1) := by decide +kernel
theorem dL_law_888 : decode cL_law 888 = .ok (.aload_n 1, 1) := by decide +kernel
theorem dL_law_889 : decode cL_law 889 = .ok (.aload_n 0, 1) := by decide +kernel
theorem dL_law_890 : decode cL_law 890 = .ok (.iload_n 3, 1) := by decide +kernel
theorem dL_law_891 : decode cL_law 891 = .ok (.iconst 1, 1) := by decide +kernel
theorem dL_law_892 : decode cL_law 892 = .ok (.iadd, 1) := by decide +kernel
theorem dL_law_893 : decode cL_law 893 = .ok (.iaload, 1) := by decide +kernel
theorem dL_law_894 : decode cL_law 894 = .ok (.aload_n 0, 1) := by decide +kernel
theorem dL_law_895 : decode cL_law 895 = .ok (.iload_n 3, 1) := by decide +kernel
theorem dL_law_896 : decode cL_law 896 = .ok (.iconst 2, 1) := by decide +kernel
theorem dL_law_897 : decode cL_law 897 = .ok (.iadd, 1) := by decide +kernel
theorem dL_law_898 : decode cL_law 898 = .ok (.iaload, 1) := by decide +kernel
theorem dL_law_899 : decode cL_law 899 = .ok (.aload_n 0, 1) := by decide +kernel
theorem dL_law_900 : decode cL_law 900 = .ok (.iload_n 3, 1) := by decide +kernel
theorem dL_law_901 : decode cL_law 901 = .ok (.iconst 3, 1) := by decide +kernel
theorem dL_law_902 : decode cL_law 902 = .ok (.iadd, 1) := by decide +kernel
theorem dL_law_903 : decode cL_law 903 = .ok (.iaload, 1) := by decide +kernel
theorem dL_law_904 : decode cL_law 904 = .ok (.invokevirtual 96, 3) := by decide +kernel
theorem dL_law_907 : decode cL_law 907 = .ok (.aload_n 2, 1) := by decide +kernel
theorem dL_law_908 : decode cL_law 908 = .ok (.aload_n 0, 1) := by decide +kernel
theorem dL_law_909 : decode cL_law 909 = .ok (.iload_n 3, 1) := by decide +kernel
theorem dL_law_910 : decode cL_law 910 = .ok (.iconst 1, 1) := by decide +kernel
theorem dL_law_911 : decode cL_law 911 = .ok (.iadd, 1) := by decide +kernel
theorem dL_law_912 : decode cL_law 912 = .ok (.iaload, 1) := by decide +kernel
theorem dL_law_913 : decode cL_law 913 = .ok (.aload_n 0, 1) := by decide +kernel
theorem dL_law_914 : decode cL_law 914 = .ok (.iload_n 3, 1) := by decide +kernel
theorem dL_law_915 : decode cL_law 915 = .ok (.iconst 2, 1) := by decide +kernel
theorem dL_law_916 : decode cL_law 916 = .ok (.iadd, 1) := by decide +kernel
theorem dL_law_917 : decode cL_law 917 = .ok (.iaload, 1) := by decide +kernel
theorem dL_law_918 : decode cL_law 918 = .ok (.aload_n 0, 1) := by decide +kernel
theorem dL_law_919 : decode cL_law 919 = .ok (.iload_n 3, 1) := by decide +kernel
theorem dL_law_920 : decode cL_law 920 = .ok (.iconst 3, 1) := by decide +kernel
theorem dL_law_921 : decode cL_law 921 = .ok (.iadd, 1) := by decide +kernel
theorem dL_law_922 : decode cL_law 922 = .ok (.iaload, 1) := by decide +kernel
theorem dL_law_923 : decode cL_law 923 = .ok (.invokevirtual 99, 3) := by decide +kernel
theorem dL_law_926 : decode cL_law 926 = .ok (.if_icmp .eq 543, 3) := by decide +kernel
theorem dL_law_929 : decode cL_law 929 = .ok (.iconst 0, 1) := by decide +kernel
theorem dL_law_930 : decode cL_law 930 = .ok (.ireturn, 1) := by decide +kernel
theorem dL_law_931 : decode cL_law 931 = .ok (.aload_n 1, 1) := by decide +kernel
theorem dL_law_932 : decode cL_law 932 = .ok (.aload_n 0, 1) := by decide +kernel
theorem dL_law_933 : decode cL_law 933 = .ok (.iload_n 3, 1) := by decide +kernel
theorem dL_law_934 : decode cL_law 934 = .ok (.iconst 1, 1) := by decide +kernel
theorem dL_law_935 : decode cL_law 935 = .ok (.iadd, 1) := by decide +kernel
theorem dL_law_936 : decode cL_law 936 = .ok (.iaload, 1) := by decide +kernel
theorem dL_law_937 : decode cL_law 937 = .ok (.aload_n 0, 1) := by decide +kernel
theorem dL_law_938 : decode cL_law 938 = .ok (.iload_n 3, 1) := by decide +kernel
theorem dL_law_939 : decode cL_law 939 = .ok (.iconst 2, 1) := by decide +kernel
theorem dL_law_940 : decode cL_law 940 = .ok (.iadd, 1) := by decide +kernel
theorem dL_law_941 : decode cL_law 941 = .ok (.iaload, 1) := by decide +kernel
theorem dL_law_942 : decode cL_law 942 = .ok (.invokevirtual 100, 3) := by decide +kernel
theorem dL_law_945 : decode cL_law 945 = .ok (.aload_n 2, 1) := by decide +kernel
theorem dL_law_946 : decode cL_law 946 = .ok (.aload_n 0, 1) := by decide +kernel
theorem dL_law_947 : decode cL_law 947 = .ok (.iload_n 3, 1) := by decide +kernel
theorem dL_law_948 : decode cL_law 948 = .ok (.iconst 1, 1) := by decide +kernel
theorem dL_law_949 : decode cL_law 949 = .ok (.iadd, 1) := by decide +kernel
theorem dL_law_950 : decode cL_law 950 = .ok (.iaload, 1) := by decide +kernel
theorem dL_law_951 : decode cL_law 951 = .ok (.aload_n 0, 1) := by decide +kernel
theorem dL_law_952 : decode cL_law 952 = .ok (.iload_n 3, 1) := by decide +kernel
theorem dL_law_953 : decode cL_law 953 = .ok (.iconst 2, 1) := by decide +kernel
theorem dL_law_954 : decode cL_law 954 = .ok (.iadd, 1) := by decide +kernel
theorem dL_law_955 : decode cL_law 955 = .ok (.iaload, 1) := by decide +kernel
theorem dL_law_956 : decode cL_law 956 = .ok (.invokevirtual 103, 3) := by decide +kernel
theorem dL_law_959 : decode cL_law 959 = .ok (.if_icmp .eq 510, 3) := by decide +kernel
theorem dL_law_962 : decode cL_law 962 = .ok (.iconst 0, 1) := by decide +kernel
theorem dL_law_963 : decode cL_law 963 = .ok (.ireturn, 1) := by decide +kernel
theorem dL_law_964 : decode cL_law 964 = .ok (.aload_n 1, 1) := by decide +kernel
theorem dL_law_965 : decode cL_law 965 = .ok (.aload_n 0, 1) := by decide +kernel
theorem dL_law_966 : decode cL_law 966 = .ok (.iload_n 3, 1) := by decide +kernel
theorem dL_law_967 : decode cL_law 967 = .ok (.iconst 1, 1) := by decide +kernel
theorem dL_law_968 : decode cL_law 968 = .ok (.iadd, 1) := by decide +kernel
theorem dL_law_969 : decode cL_law 969 = .ok (.iaload, 1) := by decide +kernel
theorem dL_law_970 : decode cL_law 970 = .ok (.invokevirtual 104, 3) := by decide +kernel
theorem dL_law_973 : decode cL_law 973 = .ok (.aload_n 2, 1) := by decide +kernel
theorem dL_law_974 : decode cL_law 974 = .ok (.aload_n 0, 1) := by decide +kernel
theorem dL_law_975 : decode cL_law 975 = .ok (.iload_n 3, 1) := by decide +kernel
theorem dL_law_976 : decode cL_law 976 = .ok (.iconst 1, 1) := by decide +kernel
theorem dL_law_977 : decode cL_law 977 = .ok (.iadd, 1) := by decide +kernel
theorem dL_law_978 : decode cL_law 978 = .ok (.iaload, 1) := by decide +kernel
theorem dL_law_979 : decode cL_law 979 = .ok (.invokevirtual 107, 3) := by decide +kernel
theorem dL_law_982 : decode cL_law 982 = .ok (.if_icmp .eq 487, 3) := by decide +kernel
theorem dL_law_985 : decode cL_law 985 = .ok (.iconst 0, 1) := by decide +kernel
theorem dL_law_986 : decode cL_law 986 = .ok (.ireturn, 1) := by decide +kernel
theorem dL_law_987 : decode cL_law 987 = .ok (.aload_n 1, 1) := by decide +kernel
theorem dL_law_988 : decode cL_law 988 = .ok (.aload_n 0, 1) := by decide +kernel
theorem dL_law_989 : decode cL_law 989 = .ok (.iload_n 3, 1) := by decide +kernel
theorem dL_law_990 : decode cL_law 990 = .ok (.iconst 1, 1) := by decide +kernel
theorem dL_law_991 : decode cL_law 991 = .ok (.iadd, 1) := by decide +kernel
theorem dL_law_992 : decode cL_law 992 = .ok (.iaload, 1) := by decide +kernel
theorem dL_law_993 : decode cL_law 993 = .ok (.aload_n 0, 1) := by decide +kernel
theorem dL_law_994 : decode cL_law 994 = .ok (.iload_n 3, 1) := by decide +kernel
theorem dL_law_995 : decode cL_law 995 = .ok (.iconst 2, 1) := by decide +kernel
theorem dL_law_996 : decode cL_law 996 = .ok (.iadd, 1) := by decide +kernel
theorem dL_law_997 : decode cL_law 997 = .ok (.iaload, 1) := by decide +kernel
theorem dL_law_998 : decode cL_law 998 = .ok (.aload_n 0, 1) := by decide +kernel
theorem dL_law_999 : decode cL_law 999 = .ok (.iload_n 3, 1) := by decide +kernel
theorem dL_law_1000 : decode cL_law 1000 = .ok (.iconst 3, 1) := by decide +kernel
theorem dL_law_1001 : decode cL_law 1001 = .ok (.iadd, 1) := by decide +kernel
theorem dL_law_1002 : decode cL_law 1002 = .ok (.iaload, 1) := by decide +kernel
theorem dL_law_1003 : decode cL_law 1003 = .ok (.aload_n 0, 1) := by decide +kernel
theorem dL_law_1004 : decode cL_law 1004 = .ok (.iload_n 3, 1) := by decide +kernel
theorem dL_law_1005 : decode cL_law 1005 = .ok (.iconst 4, 1) := by decide +kernel
theorem dL_law_1006 : decode cL_law 1006 = .ok (.iadd, 1) := by decide +kernel
theorem dL_law_1007 : decode cL_law 1007 = .ok (.iaload, 1) := by decide +kernel
theorem dL_law_1008 : decode cL_law 1008 = .ok (.invokevirtual 108, 3) := by decide +kernel
theorem dL_law_1011 : decode cL_law 1011 = .ok (.aload_n 2, 1) := by decide +kernel
theorem dL_law_1012 : decode cL_law 1012 = .ok (.aload_n 0, 1) := by decide +kernel
theorem dL_law_1013 : decode cL_law 1013 = .ok (.iload_n 3, 1) := by decide +kernel
theorem dL_law_1014 : decode cL_law 1014 = .ok (.iconst 1, 1) := by decide +kernel
theorem dL_law_1015 : decode cL_law 1015 = .ok (.iadd, 1) := by decide +kernel
theorem dL_law_1016 : decode cL_law 1016 = .ok (.iaload, 1) := by decide +kernel
theorem dL_law_1017 : decode cL_law 1017 = .ok (.aload_n 0, 1) := by decide +kernel
theorem dL_law_1018 : decode cL_law 1018 = .ok (.iload_n 3, 1) := by decide +kernel
theorem dL_law_1019 : decode cL_law 1019 = .ok (.iconst 2, 1) := by decide +kernel
theorem dL_law_1020 : decode cL_law 1020 = .ok (.iadd, 1) := by decide +kernel
theorem dL_law_1021 : decode cL_law 1021 = .ok (.iaload, 1) := by decide +kernel
theorem dL_law_1022 : decode cL_law 1022 = .ok (.aload_n 0, 1) := by decide +kernel
theorem dL_law_1023 : decode cL_law 1023 = .ok (.iload_n 3, 1) := by decide +kernel
theorem dL_law_1024 : decode cL_law 1024 = .ok (.iconst 3, 1) := by decide +kernel
theorem dL_law_1025 : decode cL_law 1025 = .ok (.iadd, 1) := by decide +kernel
theorem dL_law_1026 : decode cL_law 1026 = .ok (.iaload, 1) := by decide +kernel
theorem dL_law_1027 : decode cL_law 1027 = .ok (.aload_n 0, 1) := by decide +kernel
theorem dL_law_1028 : decode cL_law 1028 = .ok (.iload_n 3, 1) := by decide +kernel
theorem dL_law_1029 : decode cL_law 1029 = .ok (.iconst 4, 1) := by decide +kernel
theorem dL_law_1030 : decode cL_law 1030 = .ok (.iadd, 1) := by decide +kernel
theorem dL_law_1031 : decode cL_law 1031 = .ok (.iaload, 1) := by decide +kernel
theorem dL_law_1032 : decode cL_law 1032 = .ok (.invokevirtual 112, 3) := by decide +kernel
theorem dL_law_1035 : decode cL_law 1035 = .ok (.lcmp, 1) := by decide +kernel
theorem dL_law_1036 : decode cL_law 1036 = .ok (.ifCond .eq 433, 3) := by decide +kernel
theorem dL_law_1039 : decode cL_law 1039 = .ok (.iconst 0, 1) := by decide +kernel
theorem dL_law_1040 : decode cL_law 1040 = .ok (.ireturn, 1) := by decide +kernel
theorem dL_law_1041 : decode cL_law 1041 = .ok (.aload_n 1, 1) := by decide +kernel
theorem dL_law_1042 : decode cL_law 1042 = .ok (.aload_n 0, 1) := by decide +kernel
theorem dL_law_1043 : decode cL_law 1043 = .ok (.iload_n 3, 1) := by decide +kernel
theorem dL_law_1044 : decode cL_law 1044 = .ok (.iconst 1, 1) := by decide +kernel
theorem dL_law_1045 : decode cL_law 1045 = .ok (.iadd, 1) := by decide +kernel
theorem dL_law_1046 : decode cL_law 1046 = .ok (.iaload, 1) := by decide +kernel
theorem dL_law_1047 : decode cL_law 1047 = .ok (.invokevirtual 113, 3) := by decide +kernel
theorem dL_law_1050 : decode cL_law 1050 = .ok (.aload_n 2, 1) := by decide +kernel
theorem dL_law_1051 : decode cL_law 1051 = .ok (.aload_n 0, 1) := by decide +kernel
theorem dL_law_1052 : decode cL_law 1052 = .ok (.iload_n 3, 1) := by decide +kernel
theorem dL_law_1053 : decode cL_law 1053 = .ok (.iconst 1, 1) := by decide +kernel
theorem dL_law_1054 : decode cL_law 1054 = .ok (.iadd, 1) := by decide +kernel
theorem dL_law_1055 : decode cL_law 1055 = .ok (.iaload, 1) := by decide +kernel
theorem dL_law_1056 : decode cL_law 1056 = .ok (.invokevirtual 116, 3) := by decide +kernel
theorem dL_law_1059 : decode cL_law 1059 = .ok (.if_icmp .eq 410, 3) := by decide +kernel
theorem dL_law_1062 : decode cL_law 1062 = .ok (.iconst 0, 1) := by decide +kernel
theorem dL_law_1063 : decode cL_law 1063 = .ok (.ireturn, 1) := by decide +kernel
theorem dL_law_1064 : decode cL_law 1064 = .ok (.aload_n 1, 1) := by decide +kernel
theorem dL_law_1065 : decode cL_law 1065 = .ok (.aload_n 0, 1) := by decide +kernel
theorem dL_law_1066 : decode cL_law 1066 = .ok (.iload_n 3, 1) := by decide +kernel
theorem dL_law_1067 : decode cL_law 1067 = .ok (.iconst 1, 1) := by decide +kernel
theorem dL_law_1068 : decode cL_law 1068 = .ok (.iadd, 1) := by decide +kernel
theorem dL_law_1069 : decode cL_law 1069 = .ok (.iaload, 1) := by decide +kernel
theorem dL_law_1070 : decode cL_law 1070 = .ok (.aload_n 0, 1) := by decide +kernel
theorem dL_law_1071 : decode cL_law 1071 = .ok (.iload_n 3, 1) := by decide +kernel
theorem dL_law_1072 : decode cL_law 1072 = .ok (.iconst 2, 1) := by decide +kernel
theorem dL_law_1073 : decode cL_law 1073 = .ok (.iadd, 1) := by decide +kernel
theorem dL_law_1074 : decode cL_law 1074 = .ok (.iaload, 1) := by decide +kernel
theorem dL_law_1075 : decode cL_law 1075 = .ok (.invokevirtual 117, 3) := by decide +kernel
theorem dL_law_1078 : decode cL_law 1078 = .ok (.aload_n 2, 1) := by decide +kernel
theorem dL_law_1079 : decode cL_law 1079 = .ok (.aload_n 0, 1) := by decide +kernel
theorem dL_law_1080 : decode cL_law 1080 = .ok (.iload_n 3, 1) := by decide +kernel
theorem dL_law_1081 : decode cL_law 1081 = .ok (.iconst 1, 1) := by decide +kernel
theorem dL_law_1082 : decode cL_law 1082 = .ok (.iadd, 1) := by decide +kernel
theorem dL_law_1083 : decode cL_law 1083 = .ok (.iaload, 1) := by decide +kernel
theorem dL_law_1084 : decode cL_law 1084 = .ok (.aload_n 0, 1) := by decide +kernel
theorem dL_law_1085 : decode cL_law 1085 = .ok (.iload_n 3, 1) := by decide +kernel
theorem dL_law_1086 : decode cL_law 1086 = .ok (.iconst 2, 1) := by decide +kernel
theorem dL_law_1087 : decode cL_law 1087 = .ok (.iadd, 1) := by decide +kernel
theorem dL_law_1088 : decode cL_law 1088 = .ok (.iaload, 1) := by decide +kernel
theorem dL_law_1089 : decode cL_law 1089 = .ok (.invokevirtual 120, 3) := by decide +kernel
theorem dL_law_1092 : decode cL_law 1092 = .ok (.if_icmp .eq 377, 3) := by decide +kernel
theorem dL_law_1095 : decode cL_law 1095 = .ok (.iconst 0, 1) := by decide +kernel
theorem dL_law_1096 : decode cL_law 1096 = .ok (.ireturn, 1) := by decide +kernel
theorem dL_law_1097 : decode cL_law 1097 = .ok (.aload_n 1, 1) := by decide +kernel
theorem dL_law_1098 : decode cL_law 1098 = .ok (.invokevirtual 121, 3) := by decide +kernel
theorem dL_law_1101 : decode cL_law 1101 = .ok (.aload_n 2, 1) := by decide +kernel
theorem dL_law_1102 : decode cL_law 1102 = .ok (.invokevirtual 125, 3) := by decide +kernel
theorem dL_law_1105 : decode cL_law 1105 = .ok (.if_icmp .eq 364, 3) := by decide +kernel
theorem dL_law_1108 : decode cL_law 1108 = .ok (.iconst 0, 1) := by decide +kernel
theorem dL_law_1109 : decode cL_law 1109 = .ok (.ireturn, 1) := by decide +kernel
theorem dL_law_1110 : decode cL_law 1110 = .ok (.aload_n 1, 1) := by decide +kernel
theorem dL_law_1111 : decode cL_law 1111 = .ok (.invokevirtual 126, 3) := by decide +kernel
theorem dL_law_1114 : decode cL_law 1114 = .ok (.aload_n 2, 1) := by decide +kernel
theorem dL_law_1115 : decode cL_law 1115 = .ok (.invokevirtual 129, 3) := by decide +kernel
theorem dL_law_1118 : decode cL_law 1118 = .ok (.if_icmp .eq 351, 3) := by decide +kernel
theorem dL_law_1121 : decode cL_law 1121 = .ok (.iconst 0, 1) := by decide +kernel
theorem dL_law_1122 : decode cL_law 1122 = .ok (.ireturn, 1) := by decide +kernel
theorem dL_law_1123 : decode cL_law 1123 = .ok (.aload_n 1, 1) := by decide +kernel
theorem dL_law_1124 : decode cL_law 1124 = .ok (.aload_n 0, 1) := by decide +kernel
theorem dL_law_1125 : decode cL_law 1125 = .ok (.iload_n 3, 1) := by decide +kernel
theorem dL_law_1126 : decode cL_law 1126 = .ok (.iconst 1, 1) := by decide +kernel
theorem dL_law_1127 : decode cL_law 1127 = .ok (.iadd, 1) := by decide +kernel
theorem dL_law_1128 : decode cL_law 1128 = .ok (.iaload, 1) := by decide +kernel
theorem dL_law_1129 : decode cL_law 1129 = .ok (.aload_n 0, 1) := by decide +kernel
theorem dL_law_1130 : decode cL_law 1130 = .ok (.iload_n 3, 1) := by decide +kernel
theorem dL_law_1131 : decode cL_law 1131 = .ok (.iconst 2, 1) := by decide +kernel
theorem dL_law_1132 : decode cL_law 1132 = .ok (.iadd, 1) := by decide +kernel
theorem dL_law_1133 : decode cL_law 1133 = .ok (.iaload, 1) := by decide +kernel
theorem dL_law_1134 : decode cL_law 1134 = .ok (.invokevirtual 130, 3) := by decide +kernel
theorem dL_law_1137 : decode cL_law 1137 = .ok (.aload_n 2, 1) := by decide +kernel
theorem dL_law_1138 : decode cL_law 1138 = .ok (.aload_n 0, 1) := by decide +kernel
theorem dL_law_1139 : decode cL_law 1139 = .ok (.iload_n 3, 1) := by decide +kernel
theorem dL_law_1140 : decode cL_law 1140 = .ok (.iconst 1, 1) := by decide +kernel
theorem dL_law_1141 : decode cL_law 1141 = .ok (.iadd, 1) := by decide +kernel
theorem dL_law_1142 : decode cL_law 1142 = .ok (.iaload, 1) := by decide +kernel
theorem dL_law_1143 : decode cL_law 1143 = .ok (.aload_n 0, 1) := by decide +kernel
theorem dL_law_1144 : decode cL_law 1144 = .ok (.iload_n 3, 1) := by decide +kernel
theorem dL_law_1145 : decode cL_law 1145 = .ok (.iconst 2, 1) := by decide +kernel
theorem dL_law_1146 : decode cL_law 1146 = .ok (.iadd, 1) := by decide +kernel
theorem dL_law_1147 : decode cL_law 1147 = .ok (.iaload, 1) := by decide +kernel
theorem dL_law_1148 : decode cL_law 1148 = .ok (.invokevirtual 133, 3) := by decide +kernel
theorem dL_law_1151 : decode cL_law 1151 = .ok (.if_icmp .eq 318, 3) := by decide +kernel
theorem dL_law_1154 : decode cL_law 1154 = .ok (.iconst 0, 1) := by decide +kernel
theorem dL_law_1155 : decode cL_law 1155 = .ok (.ireturn, 1) := by decide +kernel
theorem dL_law_1156 : decode cL_law 1156 = .ok (.aload_n 1, 1) := by decide +kernel
theorem dL_law_1157 : decode cL_law 1157 = .ok (.aload_n 0, 1) := by decide +kernel
theorem dL_law_1158 : decode cL_law 1158 = .ok (.iload_n 3, 1) := by decide +kernel
theorem dL_law_1159 : decode cL_law 1159 = .ok (.iconst 1, 1) := by decide +kernel
theorem dL_law_1160 : decode cL_law 1160 = .ok (.iadd, 1) := by decide +kernel
theorem dL_law_1161 : decode cL_law 1161 = .ok (.iaload, 1) := by decide +kernel
theorem dL_law_1162 : decode cL_law 1162 = .ok (.aload_n 0, 1) := by decide +kernel
theorem dL_law_1163 : decode cL_law 1163 = .ok (.iload_n 3, 1) := by decide +kernel
theorem dL_law_1164 : decode cL_law 1164 = .ok (.iconst 2, 1) := by decide +kernel
theorem dL_law_1165 : decode cL_law 1165 = .ok (.iadd, 1) := by decide +kernel
theorem dL_law_1166 : decode cL_law 1166 = .ok (.iaload, 1) := by decide +kernel
theorem dL_law_1167 : decode cL_law 1167 = .ok (.invokevirtual 134, 3) := by decide +kernel
theorem dL_law_1170 : decode cL_law 1170 = .ok (.aload_n 2, 1) := by decide +kernel
theorem dL_law_1171 : decode cL_law 1171 = .ok (.aload_n 0, 1) := by decide +kernel
theorem dL_law_1172 : decode cL_law 1172 = .ok (.iload_n 3, 1) := by decide +kernel
theorem dL_law_1173 : decode cL_law 1173 = .ok (.iconst 1, 1) := by decide +kernel
theorem dL_law_1174 : decode cL_law 1174 = .ok (.iadd, 1) := by decide +kernel
theorem dL_law_1175 : decode cL_law 1175 = .ok (.iaload, 1) := by decide +kernel
theorem dL_law_1176 : decode cL_law 1176 = .ok (.aload_n 0, 1) := by decide +kernel
theorem dL_law_1177 : decode cL_law 1177 = .ok (.iload_n 3, 1) := by decide +kernel
theorem dL_law_1178 : decode cL_law 1178 = .ok (.iconst 2, 1) := by decide +kernel
theorem dL_law_1179 : decode cL_law 1179 = .ok (.iadd, 1) := by decide +kernel
theorem dL_law_1180 : decode cL_law 1180 = .ok (.iaload, 1) := by decide +kernel
theorem dL_law_1181 : decode cL_law 1181 = .ok (.invokevirtual 137, 3) := by decide +kernel
theorem dL_law_1184 : decode cL_law 1184 = .ok (.if_icmp .eq 285, 3) := by decide +kernel
theorem dL_law_1187 : decode cL_law 1187 = .ok (.iconst 0, 1) := by decide +kernel
theorem dL_law_1188 : decode cL_law 1188 = .ok (.ireturn, 1) := by decide +kernel
theorem dL_law_1189 : decode cL_law 1189 = .ok (.aload_n 1, 1) := by decide +kernel
theorem dL_law_1190 : decode cL_law 1190 = .ok (.aload_n 0, 1) := by decide +kernel
theorem dL_law_1191 : decode cL_law 1191 = .ok (.iload_n 3, 1) := by decide +kernel
theorem dL_law_1192 : decode cL_law 1192 = .ok (.iconst 1, 1) := by decide +kernel
theorem dL_law_1193 : decode cL_law 1193 = .ok (.iadd, 1) := by decide +kernel
theorem dL_law_1194 : decode cL_law 1194 = .ok (.iaload, 1) := by decide +kernel
theorem dL_law_1195 : decode cL_law 1195 = .ok (.aload_n 0, 1) := by decide +kernel
theorem dL_law_1196 : decode cL_law 1196 = .ok (.iload_n 3, 1) := by decide +kernel
theorem dL_law_1197 : decode cL_law 1197 = .ok (.iconst 2, 1) := by decide +kernel
theorem dL_law_1198 : decode cL_law 1198 = .ok (.iadd, 1) := by decide +kernel
theorem dL_law_1199 : decode cL_law 1199 = .ok (.iaload, 1) := by decide +kernel
theorem dL_law_1200 : decode cL_law 1200 = .ok (.aload_n 0, 1) := by decide +kernel
theorem dL_law_1201 : decode cL_law 1201 = .ok (.iload_n 3, 1) := by decide +kernel
theorem dL_law_1202 : decode cL_law 1202 = .ok (.iconst 3, 1) := by decide +kernel
theorem dL_law_1203 : decode cL_law 1203 = .ok (.iadd, 1) := by decide +kernel
theorem dL_law_1204 : decode cL_law 1204 = .ok (.iaload, 1) := by decide +kernel
theorem dL_law_1205 : decode cL_law 1205 = .ok (.invokevirtual 138, 3) := by decide +kernel
theorem dL_law_1208 : decode cL_law 1208 = .ok (.aload_n 2, 1) := by decide +kernel
theorem dL_law_1209 : decode cL_law 1209 = .ok (.aload_n 0, 1) := by decide +kernel
theorem dL_law_1210 : decode cL_law 1210 = .ok (.iload_n 3, 1) := by decide +kernel
theorem dL_law_1211 : decode cL_law 1211 = .ok (.iconst 1, 1) := by decide +kernel
theorem dL_law_1212 : decode cL_law 1212 = .ok (.iadd, 1) := by decide +kernel
theorem dL_law_1213 : decode cL_law 1213 = .ok (.iaload, 1) := by decide +kernel
theorem dL_law_1214 : decode cL_law 1214 = .ok (.aload_n 0, 1) := by decide +kernel
theorem dL_law_1215 : decode cL_law 1215 = .ok (.iload_n 3, 1) := by decide +kernel
theorem dL_law_1216 : decode cL_law 1216 = .ok (.iconst 2, 1) := by decide +kernel
theorem dL_law_1217 : decode cL_law 1217 = .ok (.iadd, 1) := by decide +kernel
theorem dL_law_1218 : decode cL_law 1218 = .ok (.iaload, 1) := by decide +kernel
theorem dL_law_1219 : decode cL_law 1219 = .ok (.aload_n 0, 1) := by decide +kernel
theorem dL_law_1220 : decode cL_law 1220 = .ok (.iload_n 3, 1) := by decide +kernel
theorem dL_law_1221 : decode cL_law 1221 = .ok (.iconst 3, 1) := by decide +kernel
theorem dL_law_1222 : decode cL_law 1222 = .ok (.iadd, 1) := by decide +kernel
theorem dL_law_1223 : decode cL_law 1223 = .ok (.iaload, 1) := by decide +kernel
theorem dL_law_1224 : decode cL_law 1224 = .ok (.invokevirtual 141, 3) := by decide +kernel
theorem dL_law_1227 : decode cL_law 1227 = .ok (.if_icmp .eq 242, 3) := by decide +kernel
theorem dL_law_1230 : decode cL_law 1230 = .ok (.iconst 0, 1) := by decide +kernel
theorem dL_law_1231 : decode cL_law 1231 = .ok (.ireturn, 1) := by decide +kernel
theorem dL_law_1232 : decode cL_law 1232 = .ok (.aload_n 1, 1) := by decide +kernel
theorem dL_law_1233 : decode cL_law 1233 = .ok (.aload_n 0, 1) := by decide +kernel
theorem dL_law_1234 : decode cL_law 1234 = .ok (.iload_n 3, 1) := by decide +kernel
theorem dL_law_1235 : decode cL_law 1235 = .ok (.iconst 1, 1) := by decide +kernel
theorem dL_law_1236 : decode cL_law 1236 = .ok (.iadd, 1) := by decide +kernel
theorem dL_law_1237 : decode cL_law 1237 = .ok (.iaload, 1) := by decide +kernel
theorem dL_law_1238 : decode cL_law 1238 = .ok (.aload_n 0, 1) := by decide +kernel
theorem dL_law_1239 : decode cL_law 1239 = .ok (.iload_n 3, 1) := by decide +kernel
theorem dL_law_1240 : decode cL_law 1240 = .ok (.iconst 2, 1) := by decide +kernel
theorem dL_law_1241 : decode cL_law 1241 = .ok (.iadd, 1) := by decide +kernel
theorem dL_law_1242 : decode cL_law 1242 = .ok (.iaload, 1) := by decide +kernel
theorem dL_law_1243 : decode cL_law 1243 = .ok (.aload_n 0, 1) := by decide +kernel
theorem dL_law_1244 : decode cL_law 1244 = .ok (.iload_n 3, 1) := by decide +kernel
theorem dL_law_1245 : decode cL_law 1245 = .ok (.iconst 3, 1) := by decide +kernel
theorem dL_law_1246 : decode cL_law 1246 = .ok (.iadd, 1) := by decide +kernel
theorem dL_law_1247 : decode cL_law 1247 = .ok (.iaload, 1) := by decide +kernel
theorem dL_law_1248 : decode cL_law 1248 = .ok (.invokevirtual 142, 3) := by decide +kernel
theorem dL_law_1251 : decode cL_law 1251 = .ok (.aload_n 2, 1) := by decide +kernel
theorem dL_law_1252 : decode cL_law 1252 = .ok (.aload_n 0, 1) := by decide +kernel
theorem dL_law_1253 : decode cL_law 1253 = .ok (.iload_n 3, 1) := by decide +kernel
theorem dL_law_1254 : decode cL_law 1254 = .ok (.iconst 1, 1) := by decide +kernel
theorem dL_law_1255 : decode cL_law 1255 = .ok (.iadd, 1) := by decide +kernel
theorem dL_law_1256 : decode cL_law 1256 = .ok (.iaload, 1) := by decide +kernel
theorem dL_law_1257 : decode cL_law 1257 = .ok (.aload_n 0, 1) := by decide +kernel
theorem dL_law_1258 : decode cL_law 1258 = .ok (.iload_n 3, 1) := by decide +kernel
theorem dL_law_1259 : decode cL_law 1259 = .ok (.iconst 2, 1) := by decide +kernel
theorem dL_law_1260 : decode cL_law 1260 = .ok (.iadd, 1) := by decide +kernel
theorem dL_law_1261 : decode cL_law 1261 = .ok (.iaload, 1) := by decide +kernel
theorem dL_law_1262 : decode cL_law 1262 = .ok (.aload_n 0, 1) := by decide +kernel
theorem dL_law_1263 : decode cL_law 1263 = .ok (.iload_n 3, 1) := by decide +kernel
theorem dL_law_1264 : decode cL_law 1264 = .ok (.iconst 3, 1) := by decide +kernel
theorem dL_law_1265 : decode cL_law 1265 = .ok (.iadd, 1) := by decide +kernel
theorem dL_law_1266 : decode cL_law 1266 = .ok (.iaload, 1) := by decide +kernel
theorem dL_law_1267 : decode cL_law 1267 = .ok (.invokevirtual 145, 3) := by decide +kernel
theorem dL_law_1270 : decode cL_law 1270 = .ok (.if_icmp .eq 199, 3) := by decide +kernel
theorem dL_law_1273 : decode cL_law 1273 = .ok (.iconst 0, 1) := by decide +kernel
theorem dL_law_1274 : decode cL_law 1274 = .ok (.ireturn, 1) := by decide +kernel
theorem dL_law_1275 : decode cL_law 1275 = .ok (.aload_n 1, 1) := by decide +kernel
theorem dL_law_1276 : decode cL_law 1276 = .ok (.aload_n 0, 1) := by decide +kernel
theorem dL_law_1277 : decode cL_law 1277 = .ok (.iload_n 3, 1) := by decide +kernel
theorem dL_law_1278 : decode cL_law 1278 = .ok (.iconst 1, 1) := by decide +kernel
theorem dL_law_1279 : decode cL_law 1279 = .ok (.iadd, 1) := by decide +kernel
theorem dL_law_1280 : decode cL_law 1280 = .ok (.iaload, 1) := by decide +kernel
theorem dL_law_1281 : decode cL_law 1281 = .ok (.aload_n 0, 1) := by decide +kernel
theorem dL_law_1282 : decode cL_law 1282 = .ok (.iload_n 3, 1) := by decide +kernel
theorem dL_law_1283 : decode cL_law 1283 = .ok (.iconst 2, 1) := by decide +kernel
theorem dL_law_1284 : decode cL_law 1284 = .ok (.iadd, 1) := by decide +kernel
theorem dL_law_1285 : decode cL_law 1285 = .ok (.iaload, 1) := by decide +kernel
theorem dL_law_1286 : decode cL_law 1286 = .ok (.aload_n 0, 1) := by decide +kernel
theorem dL_law_1287 : decode cL_law 1287 = .ok (.iload_n 3, 1) := by decide +kernel
theorem dL_law_1288 : decode cL_law 1288 = .ok (.iconst 3, 1) := by decide +kernel
theorem dL_law_1289 : decode cL_law 1289 = .ok (.iadd, 1) := by decide +kernel
theorem dL_law_1290 : decode cL_law 1290 = .ok (.iaload, 1) := by decide +kernel
theorem dL_law_1291 : decode cL_law 1291 = .ok (.aload_n 0, 1) := by decide +kernel
theorem dL_law_1292 : decode cL_law 1292 = .ok (.iload_n 3, 1) := by decide +kernel
theorem dL_law_1293 : decode cL_law 1293 = .ok (.iconst 4, 1) := by decide +kernel
theorem dL_law_1294 : decode cL_law 1294 = .ok (.iadd, 1) := by decide +kernel
theorem dL_law_1295 : decode cL_law 1295 = .ok (.iaload, 1) := by decide +kernel
theorem dL_law_1296 : decode cL_law 1296 = .ok (.aload_n 0, 1) := by decide +kernel
theorem dL_law_1297 : decode cL_law 1297 = .ok (.iload_n 3, 1) := by decide +kernel
theorem dL_law_1298 : decode cL_law 1298 = .ok (.iconst 5, 1) := by decide +kernel
theorem dL_law_1299 : decode cL_law 1299 = .ok (.iadd, 1) := by decide +kernel
theorem dL_law_1300 : decode cL_law 1300 = .ok (.iaload, 1) := by decide +kernel
theorem dL_law_1301 : decode cL_law 1301 = .ok (.invokevirtual 146, 3) := by decide +kernel
theorem dL_law_1304 : decode cL_law 1304 = .ok (.aload_n 2, 1) := by decide +kernel
theorem dL_law_1305 : decode cL_law 1305 = .ok (.aload_n 0, 1) := by decide +kernel
theorem dL_law_1306 : decode cL_law 1306 = .ok (.iload_n 3, 1) := by decide +kernel
theorem dL_law_1307 : decode cL_law 1307 = .ok (.iconst 1, 1) := by decide +kernel
theorem dL_law_1308 : decode cL_law 1308 = .ok (.iadd, 1) := by decide +kernel
theorem dL_law_1309 : decode cL_law 1309 = .ok (.iaload, 1) := by decide +kernel
theorem dL_law_1310 : decode cL_law 1310 = .ok (.aload_n 0, 1) := by decide +kernel
theorem dL_law_1311 : decode cL_law 1311 = .ok (.iload_n 3, 1) := by decide +kernel
theorem dL_law_1312 : decode cL_law 1312 = .ok (.iconst 2, 1) := by decide +kernel
theorem dL_law_1313 : decode cL_law 1313 = .ok (.iadd, 1) := by decide +kernel
theorem dL_law_1314 : decode cL_law 1314 = .ok (.iaload, 1) := by decide +kernel
theorem dL_law_1315 : decode cL_law 1315 = .ok (.aload_n 0, 1) := by decide +kernel
theorem dL_law_1316 : decode cL_law 1316 = .ok (.iload_n 3, 1) := by decide +kernel
theorem dL_law_1317 : decode cL_law 1317 = .ok (.iconst 3, 1) := by decide +kernel
theorem dL_law_1318 : decode cL_law 1318 = .ok (.iadd, 1) := by decide +kernel
theorem dL_law_1319 : decode cL_law 1319 = .ok (.iaload, 1) := by decide +kernel
theorem dL_law_1320 : decode cL_law 1320 = .ok (.aload_n 0, 1) := by decide +kernel
theorem dL_law_1321 : decode cL_law 1321 = .ok (.iload_n 3, 1) := by decide +kernel
theorem dL_law_1322 : decode cL_law 1322 = .ok (.iconst 4, 1) := by decide +kernel
theorem dL_law_1323 : decode cL_law 1323 = .ok (.iadd, 1) := by decide +kernel
theorem dL_law_1324 : decode cL_law 1324 = .ok (.iaload, 1) := by decide +kernel
theorem dL_law_1325 : decode cL_law 1325 = .ok (.aload_n 0, 1) := by decide +kernel
theorem dL_law_1326 : decode cL_law 1326 = .ok (.iload_n 3, 1) := by decide +kernel
theorem dL_law_1327 : decode cL_law 1327 = .ok (.iconst 5, 1) := by decide +kernel
theorem dL_law_1328 : decode cL_law 1328 = .ok (.iadd, 1) := by decide +kernel
theorem dL_law_1329 : decode cL_law 1329 = .ok (.iaload, 1) := by decide +kernel
theorem dL_law_1330 : decode cL_law 1330 = .ok (.invokevirtual 150, 3) := by decide +kernel
theorem dL_law_1333 : decode cL_law 1333 = .ok (.if_icmp .eq 136, 3) := by decide +kernel
theorem dL_law_1336 : decode cL_law 1336 = .ok (.iconst 0, 1) := by decide +kernel
theorem dL_law_1337 : decode cL_law 1337 = .ok (.ireturn, 1) := by decide +kernel
theorem dL_law_1338 : decode cL_law 1338 = .ok (.aload_n 1, 1) := by decide +kernel
theorem dL_law_1339 : decode cL_law 1339 = .ok (.aload_n 0, 1) := by decide +kernel
theorem dL_law_1340 : decode cL_law 1340 = .ok (.iload_n 3, 1) := by decide +kernel
theorem dL_law_1341 : decode cL_law 1341 = .ok (.iconst 1, 1) := by decide +kernel
theorem dL_law_1342 : decode cL_law 1342 = .ok (.iadd, 1) := by decide +kernel
theorem dL_law_1343 : decode cL_law 1343 = .ok (.iaload, 1) := by decide +kernel
theorem dL_law_1344 : decode cL_law 1344 = .ok (.invokevirtual 151, 3) := by decide +kernel
theorem dL_law_1347 : decode cL_law 1347 = .ok (.aload_n 2, 1) := by decide +kernel
theorem dL_law_1348 : decode cL_law 1348 = .ok (.aload_n 0, 1) := by decide +kernel
theorem dL_law_1349 : decode cL_law 1349 = .ok (.iload_n 3, 1) := by decide +kernel
theorem dL_law_1350 : decode cL_law 1350 = .ok (.iconst 1, 1) := by decide +kernel
theorem dL_law_1351 : decode cL_law 1351 = .ok (.iadd, 1) := by decide +kernel
theorem dL_law_1352 : decode cL_law 1352 = .ok (.iaload, 1) := by decide +kernel
theorem dL_law_1353 : decode cL_law 1353 = .ok (.invokevirtual 154, 3) := by decide +kernel
theorem dL_law_1356 : decode cL_law 1356 = .ok (.if_icmp .eq 113, 3) := by decide +kernel
theorem dL_law_1359 : decode cL_law 1359 = .ok (.iconst 0, 1) := by decide +kernel
theorem dL_law_1360 : decode cL_law 1360 = .ok (.ireturn, 1) := by decide +kernel
theorem dL_law_1361 : decode cL_law 1361 = .ok (.aload_n 1, 1) := by decide +kernel
theorem dL_law_1362 : decode cL_law 1362 = .ok (.aload_n 0, 1) := by decide +kernel
theorem dL_law_1363 : decode cL_law 1363 = .ok (.iload_n 3, 1) := by decide +kernel
theorem dL_law_1364 : decode cL_law 1364 = .ok (.iconst 1, 1) := by decide +kernel
theorem dL_law_1365 : decode cL_law 1365 = .ok (.iadd, 1) := by decide +kernel
theorem dL_law_1366 : decode cL_law 1366 = .ok (.iaload, 1) := by decide +kernel
theorem dL_law_1367 : decode cL_law 1367 = .ok (.invokevirtual 155, 3) := by decide +kernel
theorem dL_law_1370 : decode cL_law 1370 = .ok (.aload_n 2, 1) := by decide +kernel
theorem dL_law_1371 : decode cL_law 1371 = .ok (.aload_n 0, 1) := by decide +kernel
theorem dL_law_1372 : decode cL_law 1372 = .ok (.iload_n 3, 1) := by decide +kernel
theorem dL_law_1373 : decode cL_law 1373 = .ok (.iconst 1, 1) := by decide +kernel
theorem dL_law_1374 : decode cL_law 1374 = .ok (.iadd, 1) := by decide +kernel
theorem dL_law_1375 : decode cL_law 1375 = .ok (.iaload, 1) := by decide +kernel
theorem dL_law_1376 : decode cL_law 1376 = .ok (.invokevirtual 158, 3) := by decide +kernel
theorem dL_law_1379 : decode cL_law 1379 = .ok (.if_icmp .eq 90, 3) := by decide +kernel
theorem dL_law_1382 : decode cL_law 1382 = .ok (.iconst 0, 1) := by decide +kernel
theorem dL_law_1383 : decode cL_law 1383 = .ok (.ireturn, 1) := by decide +kernel
theorem dL_law_1384 : decode cL_law 1384 = .ok (.aload_n 1, 1) := by decide +kernel
theorem dL_law_1385 : decode cL_law 1385 = .ok (.invokevirtual 159, 3) := by decide +kernel
theorem dL_law_1388 : decode cL_law 1388 = .ok (.aload_n 2, 1) := by decide +kernel
theorem dL_law_1389 : decode cL_law 1389 = .ok (.invokevirtual 162, 3) := by decide +kernel
theorem dL_law_1392 : decode cL_law 1392 = .ok (.if_icmp .eq 77, 3) := by decide +kernel
theorem dL_law_1395 : decode cL_law 1395 = .ok (.iconst 0, 1) := by decide +kernel
theorem dL_law_1396 : decode cL_law 1396 = .ok (.ireturn, 1) := by decide +kernel
theorem dL_law_1397 : decode cL_law 1397 = .ok (.aload_n 1, 1) := by decide +kernel
theorem dL_law_1398 : decode cL_law 1398 = .ok (.invokevirtual 163, 3) := by decide +kernel
theorem dL_law_1401 : decode cL_law 1401 = .ok (.aload_n 2, 1) := by decide +kernel
theorem dL_law_1402 : decode cL_law 1402 = .ok (.invokevirtual 166, 3) := by decide +kernel
theorem dL_law_1405 : decode cL_law 1405 = .ok (.if_icmp .eq 64, 3) := by decide +kernel
theorem dL_law_1408 : decode cL_law 1408 = .ok (.iconst 0, 1) := by decide +kernel
theorem dL_law_1409 : decode cL_law 1409 = .ok (.ireturn, 1) := by decide +kernel
theorem dL_law_1410 : decode cL_law 1410 = .ok (.aload_n 1, 1) := by decide +kernel
theorem dL_law_1411 : decode cL_law 1411 = .ok (.invokevirtual 167, 3) := by decide +kernel
theorem dL_law_1414 : decode cL_law 1414 = .ok (.aload_n 2, 1) := by decide +kernel
theorem dL_law_1415 : decode cL_law 1415 = .ok (.invokevirtual 170, 3) := by decide +kernel
theorem dL_law_1418 : decode cL_law 1418 = .ok (.if_icmp .eq 51, 3) := by decide +kernel
theorem dL_law_1421 : decode cL_law 1421 = .ok (.iconst 0, 1) := by decide +kernel
theorem dL_law_1422 : decode cL_law 1422 = .ok (.ireturn, 1) := by decide +kernel
theorem dL_law_1423 : decode cL_law 1423 = .ok (.aload_n 1, 1) := by decide +kernel
theorem dL_law_1424 : decode cL_law 1424 = .ok (.aload_n 0, 1) := by decide +kernel
theorem dL_law_1425 : decode cL_law 1425 = .ok (.iload_n 3, 1) := by decide +kernel
theorem dL_law_1426 : decode cL_law 1426 = .ok (.iconst 1, 1) := by decide +kernel
theorem dL_law_1427 : decode cL_law 1427 = .ok (.iadd, 1) := by decide +kernel
theorem dL_law_1428 : decode cL_law 1428 = .ok (.iaload, 1) := by decide +kernel
theorem dL_law_1429 : decode cL_law 1429 = .ok (.invokevirtual 171, 3) := by decide +kernel
theorem dL_law_1432 : decode cL_law 1432 = .ok (.aload_n 2, 1) := by decide +kernel
theorem dL_law_1433 : decode cL_law 1433 = .ok (.aload_n 0, 1) := by decide +kernel
theorem dL_law_1434 : decode cL_law 1434 = .ok (.iload_n 3, 1) := by decide +kernel
theorem dL_law_1435 : decode cL_law 1435 = .ok (.iconst 1, 1) := by decide +kernel
theorem dL_law_1436 : decode cL_law 1436 = .ok (.iadd, 1) := by decide +kernel
theorem dL_law_1437 : decode cL_law 1437 = .ok (.iaload, 1) := by decide +kernel
theorem dL_law_1438 : decode cL_law 1438 = .ok (.invokevirtual 174, 3) := by decide +kernel
theorem dL_law_1441 : decode cL_law 1441 = .ok (.if_icmp .eq 28, 3) := by decide +kernel
theorem dL_law_1444 : decode cL_law 1444 = .ok (.iconst 0, 1) := by decide +kernel
theorem dL_law_1445 : decode cL_law 1445 = .ok (.ireturn, 1) := by decide +kernel
theorem dL_law_1446 : decode cL_law 1446 = .ok (.aload_n 1, 1) := by decide +kernel
theorem dL_law_1447 : decode cL_law 1447 = .ok (.aload_n 0, 1) := by decide +kernel
theorem dL_law_1448 : decode cL_law 1448 = .ok (.iload_n 3, 1) := by decide +kernel
theorem dL_law_1449 : decode cL_law 1449 = .ok (.iconst 1, 1) := by decide +kernel
theorem dL_law_1450 : decode cL_law 1450 = .ok (.iadd, 1) := by decide +kernel
theorem dL_law_1451 : decode cL_law 1451 = .ok (.iaload, 1) := by decide +kernel
theorem dL_law_1452 : decode cL_law 1452 = .ok (.invokevirtual 175, 3) := by decide +kernel
theorem dL_law_1455 : decode cL_law 1455 = .ok (.aload_n 2, 1) := by decide +kernel
theorem dL_law_1456 : decode cL_law 1456 = .ok (.aload_n 0, 1) := by decide +kernel
theorem dL_law_1457 : decode cL_law 1457 = .ok (.iload_n 3, 1) := by decide +kernel
theorem dL_law_1458 : decode cL_law 1458 = .ok (.iconst 1, 1) := by decide +kernel
theorem dL_law_1459 : decode cL_law 1459 = .ok (.iadd, 1) := by decide +kernel
theorem dL_law_1460 : decode cL_law 1460 = .ok (.iaload, 1) := by decide +kernel
theorem dL_law_1461 : decode cL_law 1461 = .ok (.invokevirtual 178, 3) := by decide +kernel
theorem dL_law_1464 : decode cL_law 1464 = .ok (.if_icmp .eq 5, 3) := by decide +kernel
theorem dL_law_1467 : decode cL_law 1467 = .ok (.iconst 0, 1) := by decide +kernel
theorem dL_law_1468 : decode cL_law 1468 = .ok (.ireturn, 1) := by decide +kernel
theorem dL_law_1469 : decode cL_law 1469 = .ok (.iinc 3 6, 3) := by decide +kernel
theorem dL_law_1472 : decode cL_law 1472 = .ok (.goto (-1454), 3) := by decide +kernel
theorem dL_law_1475 : decode cL_law 1475 = .ok (.iconst 1, 1) := by decide +kernel
theorem dL_law_1476 : decode cL_law 1476 = .ok (.ireturn, 1) := by decide +kernel
