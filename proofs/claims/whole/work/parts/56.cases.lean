theorem dL_law_0 : decode code 0 = .ok (.new 7, 3) := by decide +kernel
theorem dL_law_3 : decode code 3 = .ok (.dup, 1) := by decide +kernel
theorem dL_law_4 : decode code 4 = .ok (.invokespecial 9, 3) := by decide +kernel
theorem dL_law_7 : decode code 7 = .ok (.astore_n 1, 1) := by decide +kernel
theorem dL_law_8 : decode code 8 = .ok (.new 10, 3) := by decide +kernel
theorem dL_law_11 : decode code 11 = .ok (.dup, 1) := by decide +kernel
theorem dL_law_12 : decode code 12 = .ok (.invokespecial 12, 3) := by decide +kernel
theorem dL_law_15 : decode code 15 = .ok (.astore_n 2, 1) := by decide +kernel
theorem dL_law_16 : decode code 16 = .ok (.iconst 0, 1) := by decide +kernel
theorem dL_law_17 : decode code 17 = .ok (.istore_n 3, 1) := by decide +kernel
theorem dL_law_18 : decode code 18 = .ok (.iload_n 3, 1) := by decide +kernel
theorem dL_law_19 : decode code 19 = .ok (.aload_n 0, 1) := by decide +kernel
theorem dL_law_20 : decode code 20 = .ok (.arraylength, 1) := by decide +kernel
theorem dL_law_21 : decode code 21 = .ok (.bipush 6, 2) := by decide +kernel
theorem dL_law_23 : decode code 23 = .ok (.isub, 1) := by decide +kernel
theorem dL_law_24 : decode code 24 = .ok (.if_icmp .gt 1375, 3) := by decide +kernel
theorem dL_law_27 : decode code 27 = .ok (.aload_n 0, 1) := by decide +kernel
theorem dL_law_28 : decode code 28 = .ok (.iload_n 3, 1) := by decide +kernel
theorem dL_law_29 : decode code 29 = .ok (.iaload, 1) := by decide +kernel
theorem dL_law_30 : decode code 30 = .ok (.bipush 63, 2) := by decide +kernel
theorem dL_law_32 : decode code 32 = .ok (.iand, 1) := by decide +kernel
theorem dL_law_33 : decode code 33 = .ok (.tableswitch 1360 0 45 #[199, 232, 275, 308, 331, 394, 417, 450, 493, 516, 539, 572, 605, 628, 651, 674, 687, 710, 733, 756, 779, 792, 815, 828, 851, 884, 927, 950, 973, 996, 1019, 1042, 1065, 1088, 1111, 1134, 1157, 1190, 1213, 1246, 1259, 1273, 1287, 1310, 1323, 1346], 199) := by decide +kernel
theorem dL_law_232 : decode code 232 = .ok (.aload_n 1, 1) := by decide +kernel
theorem dL_law_233 : decode code 233 = .ok (.aload_n 0, 1) := by decide +kernel
theorem dL_law_234 : decode code 234 = .ok (.iload_n 3, 1) := by decide +kernel
theorem dL_law_235 : decode code 235 = .ok (.iconst 1, 1) := by decide +kernel
theorem dL_law_236 : decode code 236 = .ok (.iadd, 1) := by decide +kernel
theorem dL_law_237 : decode code 237 = .ok (.iaload, 1) := by decide +kernel
theorem dL_law_238 : decode code 238 = .ok (.aload_n 0, 1) := by decide +kernel
theorem dL_law_239 : decode code 239 = .ok (.iload_n 3, 1) := by decide +kernel
theorem dL_law_240 : decode code 240 = .ok (.iconst 2, 1) := by decide +kernel
theorem dL_law_241 : decode code 241 = .ok (.iadd, 1) := by decide +kernel
theorem dL_law_242 : decode code 242 = .ok (.iaload, 1) := by decide +kernel
theorem dL_law_243 : decode code 243 = .ok (.invokevirtual 13, 3) := by decide +kernel
theorem dL_law_246 : decode code 246 = .ok (.aload_n 2, 1) := by decide +kernel
theorem dL_law_247 : decode code 247 = .ok (.aload_n 0, 1) := by decide +kernel
theorem dL_law_248 : decode code 248 = .ok (.iload_n 3, 1) := by decide +kernel
theorem dL_law_249 : decode code 249 = .ok (.iconst 1, 1) := by decide +kernel
theorem dL_law_250 : decode code 250 = .ok (.iadd, 1) := by decide +kernel
theorem dL_law_251 : decode code 251 = .ok (.iaload, 1) := by decide +kernel
theorem dL_law_252 : decode code 252 = .ok (.aload_n 0, 1) := by decide +kernel
theorem dL_law_253 : decode code 253 = .ok (.iload_n 3, 1) := by decide +kernel
theorem dL_law_254 : decode code 254 = .ok (.iconst 2, 1) := by decide +kernel
theorem dL_law_255 : decode code 255 = .ok (.iadd, 1) := by decide +kernel
theorem dL_law_256 : decode code 256 = .ok (.iaload, 1) := by decide +kernel
theorem dL_law_257 : decode code 257 = .ok (.invokevirtual 17, 3) := by decide +kernel
theorem dL_law_260 : decode code 260 = .ok (.if_icmp .eq 1133, 3) := by decide +kernel
theorem dL_law_263 : decode code 263 = .ok (.iconst 0, 1) := by decide +kernel
theorem dL_law_264 : decode code 264 = .ok (.ireturn, 1) := by decide +kernel
theorem dL_law_265 : decode code 265 = .ok (.aload_n 1, 1) := by decide +kernel
theorem dL_law_266 : decode code 266 = .ok (.aload_n 0, 1) := by decide +kernel
theorem dL_law_267 : decode code 267 = .ok (.iload_n 3, 1) := by decide +kernel
theorem dL_law_268 : decode code 268 = .ok (.iconst 1, 1) := by decide +kernel
theorem dL_law_269 : decode code 269 = .ok (.iadd, 1) := by decide +kernel
theorem dL_law_270 : decode code 270 = .ok (.iaload, 1) := by decide +kernel
theorem dL_law_271 : decode code 271 = .ok (.aload_n 0, 1) := by decide +kernel
theorem dL_law_272 : decode code 272 = .ok (.iload_n 3, 1) := by decide +kernel
theorem dL_law_273 : decode code 273 = .ok (.iconst 2, 1) := by decide +kernel
theorem dL_law_274 : decode code 274 = .ok (.iadd, 1) := by decide +kernel
theorem dL_law_275 : decode code 275 = .ok (.iaload, 1) := by decide +kernel
theorem dL_law_276 : decode code 276 = .ok (.aload_n 0, 1) := by decide +kernel
theorem dL_law_277 : decode code 277 = .ok (.iload_n 3, 1) := by decide +kernel
theorem dL_law_278 : decode code 278 = .ok (.iconst 3, 1) := by decide +kernel
theorem dL_law_279 : decode code 279 = .ok (.iadd, 1) := by decide +kernel
theorem dL_law_280 : decode code 280 = .ok (.iaload, 1) := by decide +kernel
theorem dL_law_281 : decode code 281 = .ok (.invokevirtual 18, 3) := by decide +kernel
theorem dL_law_284 : decode code 284 = .ok (.aload_n 2, 1) := by decide +kernel
theorem dL_law_285 : decode code 285 = .ok (.aload_n 0, 1) := by decide +kernel
theorem dL_law_286 : decode code 286 = .ok (.iload_n 3, 1) := by decide +kernel
theorem dL_law_287 : decode code 287 = .ok (.iconst 1, 1) := by decide +kernel
theorem dL_law_288 : decode code 288 = .ok (.iadd, 1) := by decide +kernel
theorem dL_law_289 : decode code 289 = .ok (.iaload, 1) := by decide +kernel
theorem dL_law_290 : decode code 290 = .ok (.aload_n 0, 1) := by decide +kernel
theorem dL_law_291 : decode code 291 = .ok (.iload_n 3, 1) := by decide +kernel
theorem dL_law_292 : decode code 292 = .ok (.iconst 2, 1) := by decide +kernel
theorem dL_law_293 : decode code 293 = .ok (.iadd, 1) := by decide +kernel
theorem dL_law_294 : decode code 294 = .ok (.iaload, 1) := by decide +kernel
theorem dL_law_295 : decode code 295 = .ok (.aload_n 0, 1) := by decide +kernel
theorem dL_law_296 : decode code 296 = .ok (.iload_n 3, 1) := by decide +kernel
theorem dL_law_297 : decode code 297 = .ok (.iconst 3, 1) := by decide +kernel
theorem dL_law_298 : decode code 298 = .ok (.iadd, 1) := by decide +kernel
theorem dL_law_299 : decode code 299 = .ok (.iaload, 1) := by decide +kernel
theorem dL_law_300 : decode code 300 = .ok (.invokevirtual 22, 3) := by decide +kernel
theorem dL_law_303 : decode code 303 = .ok (.if_icmp .eq 1090, 3) := by decide +kernel
theorem dL_law_306 : decode code 306 = .ok (.iconst 0, 1) := by decide +kernel
theorem dL_law_307 : decode code 307 = .ok (.ireturn, 1) := by decide +kernel
theorem dL_law_308 : decode code 308 = .ok (.aload_n 1, 1) := by decide +kernel
theorem dL_law_309 : decode code 309 = .ok (.aload_n 0, 1) := by decide +kernel
theorem dL_law_310 : decode code 310 = .ok (.iload_n 3, 1) := by decide +kernel
theorem dL_law_311 : decode code 311 = .ok (.iconst 1, 1) := by decide +kernel
theorem dL_law_312 : decode code 312 = .ok (.iadd, 1) := by decide +kernel
theorem dL_law_313 : decode code 313 = .ok (.iaload, 1) := by decide +kernel
theorem dL_law_314 : decode code 314 = .ok (.aload_n 0, 1) := by decide +kernel
theorem dL_law_315 : decode code 315 = .ok (.iload_n 3, 1) := by decide +kernel
theorem dL_law_316 : decode code 316 = .ok (.iconst 2, 1) := by decide +kernel
theorem dL_law_317 : decode code 317 = .ok (.iadd, 1) := by decide +kernel
theorem dL_law_318 : decode code 318 = .ok (.iaload, 1) := by decide +kernel
theorem dL_law_319 : decode code 319 = .ok (.invokevirtual 23, 3) := by decide +kernel
theorem dL_law_322 : decode code 322 = .ok (.aload_n 2, 1) := by decide +kernel
theorem dL_law_323 : decode code 323 = .ok (.aload_n 0, 1) := by decide +kernel
theorem dL_law_324 : decode code 324 = .ok (.iload_n 3, 1) := by decide +kernel
theorem dL_law_325 : decode code 325 = .ok (.iconst 1, 1) := by decide +kernel
theorem dL_law_326 : decode code 326 = .ok (.iadd, 1) := by decide +kernel
theorem dL_law_327 : decode code 327 = .ok (.iaload, 1) := by decide +kernel
theorem dL_law_328 : decode code 328 = .ok (.aload_n 0, 1) := by decide +kernel
theorem dL_law_329 : decode code 329 = .ok (.iload_n 3, 1) := by decide +kernel
theorem dL_law_330 : decode code 330 = .ok (.iconst 2, 1) := by decide +kernel
theorem dL_law_331 : decode code 331 = .ok (.iadd, 1) := by decide +kernel
theorem dL_law_332 : decode code 332 = .ok (.iaload, 1) := by decide +kernel
theorem dL_law_333 : decode code 333 = .ok (.invokevirtual 26, 3) := by decide +kernel
theorem dL_law_336 : decode code 336 = .ok (.if_icmp .eq 1057, 3) := by decide +kernel
theorem dL_law_339 : decode code 339 = .ok (.iconst 0, 1) := by decide +kernel
theorem dL_law_340 : decode code 340 = .ok (.ireturn, 1) := by decide +kernel
theorem dL_law_341 : decode code 341 = .ok (.aload_n 1, 1) := by decide +kernel
theorem dL_law_342 : decode code 342 = .ok (.aload_n 0, 1) := by decide +kernel
theorem dL_law_343 : decode code 343 = .ok (.iload_n 3, 1) := by decide +kernel
theorem dL_law_344 : decode code 344 = .ok (.iconst 1, 1) := by decide +kernel
theorem dL_law_345 : decode code 345 = .ok (.iadd, 1) := by decide +kernel
theorem dL_law_346 : decode code 346 = .ok (.iaload, 1) := by decide +kernel
theorem dL_law_347 : decode code 347 = .ok (.invokevirtual 27, 3) := by decide +kernel
theorem dL_law_350 : decode code 350 = .ok (.aload_n 2, 1) := by decide +kernel
theorem dL_law_351 : decode code 351 = .ok (.aload_n 0, 1) := by decide +kernel
theorem dL_law_352 : decode code 352 = .ok (.iload_n 3, 1) := by decide +kernel
theorem dL_law_353 : decode code 353 = .ok (.iconst 1, 1) := by decide +kernel
theorem dL_law_354 : decode code 354 = .ok (.iadd, 1) := by decide +kernel
theorem dL_law_355 : decode code 355 = .ok (.iaload, 1) := by decide +kernel
theorem dL_law_356 : decode code 356 = .ok (.invokevirtual 31, 3) := by decide +kernel
theorem dL_law_359 : decode code 359 = .ok (.if_icmp .eq 1034, 3) := by decide +kernel
theorem dL_law_362 : decode code 362 = .ok (.iconst 0, 1) := by decide +kernel
theorem dL_law_363 : decode code 363 = .ok (.ireturn, 1) := by decide +kernel
theorem dL_law_364 : decode code 364 = .ok (.aload_n 1, 1) := by decide +kernel
theorem dL_law_365 : decode code 365 = .ok (.aload_n 0, 1) := by decide +kernel
theorem dL_law_366 : decode code 366 = .ok (.iload_n 3, 1) := by decide +kernel
theorem dL_law_367 : decode code 367 = .ok (.iconst 1, 1) := by decide +kernel
theorem dL_law_368 : decode code 368 = .ok (.iadd, 1) := by decide +kernel
theorem dL_law_369 : decode code 369 = .ok (.iaload, 1) := by decide +kernel
theorem dL_law_370 : decode code 370 = .ok (.aload_n 0, 1) := by decide +kernel
theorem dL_law_371 : decode code 371 = .ok (.iload_n 3, 1) := by decide +kernel
theorem dL_law_372 : decode code 372 = .ok (.iconst 2, 1) := by decide +kernel
theorem dL_law_373 : decode code 373 = .ok (.iadd, 1) := by decide +kernel
theorem dL_law_374 : decode code 374 = .ok (.iaload, 1) := by decide +kernel
theorem dL_law_375 : decode code 375 = .ok (.aload_n 0, 1) := by decide +kernel
theorem dL_law_376 : decode code 376 = .ok (.iload_n 3, 1) := by decide +kernel
theorem dL_law_377 : decode code 377 = .ok (.iconst 3, 1) := by decide +kernel
theorem dL_law_378 : decode code 378 = .ok (.iadd, 1) := by decide +kernel
theorem dL_law_379 : decode code 379 = .ok (.iaload, 1) := by decide +kernel
theorem dL_law_380 : decode code 380 = .ok (.aload_n 0, 1) := by decide +kernel
theorem dL_law_381 : decode code 381 = .ok (.iload_n 3, 1) := by decide +kernel
theorem dL_law_382 : decode code 382 = .ok (.iconst 4, 1) := by decide +kernel
theorem dL_law_383 : decode code 383 = .ok (.iadd, 1) := by decide +kernel
theorem dL_law_384 : decode code 384 = .ok (.iaload, 1) := by decide +kernel
theorem dL_law_385 : decode code 385 = .ok (.aload_n 0, 1) := by decide +kernel
theorem dL_law_386 : decode code 386 = .ok (.iload_n 3, 1) := by decide +kernel
theorem dL_law_387 : decode code 387 = .ok (.iconst 5, 1) := by decide +kernel
theorem dL_law_388 : decode code 388 = .ok (.iadd, 1) := by decide +kernel
theorem dL_law_389 : decode code 389 = .ok (.iaload, 1) := by decide +kernel
theorem dL_law_390 : decode code 390 = .ok (.invokevirtual 32, 3) := by decide +kernel
theorem dL_law_393 : decode code 393 = .ok (.aload_n 2, 1) := by decide +kernel
theorem dL_law_394 : decode code 394 = .ok (.aload_n 0, 1) := by decide +kernel
theorem dL_law_395 : decode code 395 = .ok (.iload_n 3, 1) := by decide +kernel
theorem dL_law_396 : decode code 396 = .ok (.iconst 1, 1) := by decide +kernel
theorem dL_law_397 : decode code 397 = .ok (.iadd, 1) := by decide +kernel
theorem dL_law_398 : decode code 398 = .ok (.iaload, 1) := by decide +kernel
theorem dL_law_399 : decode code 399 = .ok (.aload_n 0, 1) := by decide +kernel
theorem dL_law_400 : decode code 400 = .ok (.iload_n 3, 1) := by decide +kernel
theorem dL_law_401 : decode code 401 = .ok (.iconst 2, 1) := by decide +kernel
theorem dL_law_402 : decode code 402 = .ok (.iadd, 1) := by decide +kernel
theorem dL_law_403 : decode code 403 = .ok (.iaload, 1) := by decide +kernel
theorem dL_law_404 : decode code 404 = .ok (.aload_n 0, 1) := by decide +kernel
theorem dL_law_405 : decode code 405 = .ok (.iload_n 3, 1) := by decide +kernel
theorem dL_law_406 : decode code 406 = .ok (.iconst 3, 1) := by decide +kernel
theorem dL_law_407 : decode code 407 = .ok (.iadd, 1) := by decide +kernel
theorem dL_law_408 : decode code 408 = .ok (.iaload, 1) := by decide +kernel
theorem dL_law_409 : decode code 409 = .ok (.aload_n 0, 1) := by decide +kernel
theorem dL_law_410 : decode code 410 = .ok (.iload_n 3, 1) := by decide +kernel
theorem dL_law_411 : decode code 411 = .ok (.iconst 4, 1) := by decide +kernel
theorem dL_law_412 : decode code 412 = .ok (.iadd, 1) := by decide +kernel
theorem dL_law_413 : decode code 413 = .ok (.iaload, 1) := by decide +kernel
theorem dL_law_414 : decode code 414 = .ok (.aload_n 0, 1) := by decide +kernel
theorem dL_law_415 : decode code 415 = .ok (.iload_n 3, 1) := by decide +kernel
theorem dL_law_416 : decode code 416 = .ok (.iconst 5, 1) := by decide +kernel
theorem dL_law_417 : decode code 417 = .ok (.iadd, 1) := by decide +kernel
theorem dL_law_418 : decode code 418 = .ok (.iaload, 1) := by decide +kernel
theorem dL_law_419 : decode code 419 = .ok (.invokevirtual 36, 3) := by decide +kernel
theorem dL_law_422 : decode code 422 = .ok (.if_icmp .eq 971, 3) := by decide +kernel
theorem dL_law_425 : decode code 425 = .ok (.iconst 0, 1) := by decide +kernel
theorem dL_law_426 : decode code 426 = .ok (.ireturn, 1) := by decide +kernel
theorem dL_law_427 : decode code 427 = .ok (.aload_n 1, 1) := by decide +kernel
theorem dL_law_428 : decode code 428 = .ok (.aload_n 0, 1) := by decide +kernel
theorem dL_law_429 : decode code 429 = .ok (.iload_n 3, 1) := by decide +kernel
theorem dL_law_430 : decode code 430 = .ok (.iconst 1, 1) := by decide +kernel
theorem dL_law_431 : decode code 431 = .ok (.iadd, 1) := by decide +kernel
theorem dL_law_432 : decode code 432 = .ok (.iaload, 1) := by decide +kernel
theorem dL_law_433 : decode code 433 = .ok (.invokevirtual 37, 3) := by decide +kernel
theorem dL_law_436 : decode code 436 = .ok (.aload_n 2, 1) := by decide +kernel
theorem dL_law_437 : decode code 437 = .ok (.aload_n 0, 1) := by decide +kernel
theorem dL_law_438 : decode code 438 = .ok (.iload_n 3, 1) := by decide +kernel
theorem dL_law_439 : decode code 439 = .ok (.iconst 1, 1) := by decide +kernel
theorem dL_law_440 : decode code 440 = .ok (.iadd, 1) := by decide +kernel
theorem dL_law_441 : decode code 441 = .ok (.iaload, 1) := by decide +kernel
theorem dL_law_442 : decode code 442 = .ok (.invokevirtual 40, 3) := by decide +kernel
theorem dL_law_445 : decode code 445 = .ok (.if_icmp .eq 948, 3) := by decide +kernel
theorem dL_law_448 : decode code 448 = .ok (.iconst 0, 1) := by decide +kernel
theorem dL_law_449 : decode code 449 = .ok (.ireturn, 1) := by decide +kernel
theorem dL_law_450 : decode code 450 = .ok (.aload_n 1, 1) := by decide +kernel
theorem dL_law_451 : decode code 451 = .ok (.aload_n 0, 1) := by decide +kernel
theorem dL_law_452 : decode code 452 = .ok (.iload_n 3, 1) := by decide +kernel
theorem dL_law_453 : decode code 453 = .ok (.iconst 1, 1) := by decide +kernel
theorem dL_law_454 : decode code 454 = .ok (.iadd, 1) := by decide +kernel
theorem dL_law_455 : decode code 455 = .ok (.iaload, 1) := by decide +kernel
theorem dL_law_456 : decode code 456 = .ok (.aload_n 0, 1) := by decide +kernel
theorem dL_law_457 : decode code 457 = .ok (.iload_n 3, 1) := by decide +kernel
theorem dL_law_458 : decode code 458 = .ok (.iconst 2, 1) := by decide +kernel
theorem dL_law_459 : decode code 459 = .ok (.iadd, 1) := by decide +kernel
theorem dL_law_460 : decode code 460 = .ok (.iaload, 1) := by decide +kernel
theorem dL_law_461 : decode code 461 = .ok (.invokevirtual 41, 3) := by decide +kernel
theorem dL_law_464 : decode code 464 = .ok (.aload_n 2, 1) := by decide +kernel
theorem dL_law_465 : decode code 465 = .ok (.aload_n 0, 1) := by decide +kernel
theorem dL_law_466 : decode code 466 = .ok (.iload_n 3, 1) := by decide +kernel
theorem dL_law_467 : decode code 467 = .ok (.iconst 1, 1) := by decide +kernel
theorem dL_law_468 : decode code 468 = .ok (.iadd, 1) := by decide +kernel
theorem dL_law_469 : decode code 469 = .ok (.iaload, 1) := by decide +kernel
theorem dL_law_470 : decode code 470 = .ok (.aload_n 0, 1) := by decide +kernel
theorem dL_law_471 : decode code 471 = .ok (.iload_n 3, 1) := by decide +kernel
theorem dL_law_472 : decode code 472 = .ok (.iconst 2, 1) := by decide +kernel
theorem dL_law_473 : decode code 473 = .ok (.iadd, 1) := by decide +kernel
theorem dL_law_474 : decode code 474 = .ok (.iaload, 1) := by decide +kernel
theorem dL_law_475 : decode code 475 = .ok (.invokevirtual 44, 3) := by decide +kernel
theorem dL_law_478 : decode code 478 = .ok (.if_icmp .eq 915, 3) := by decide +kernel
theorem dL_law_481 : decode code 481 = .ok (.iconst 0, 1) := by decide +kernel
theorem dL_law_482 : decode code 482 = .ok (.ireturn, 1) := by decide +kernel
theorem dL_law_483 : decode code 483 = .ok (.aload_n 1, 1) := by decide +kernel
theorem dL_law_484 : decode code 484 = .ok (.aload_n 0, 1) := by decide +kernel
theorem dL_law_485 : decode code 485 = .ok (.iload_n 3, 1) := by decide +kernel
theorem dL_law_486 : decode code 486 = .ok (.iconst 1, 1) := by decide +kernel
theorem dL_law_487 : decode code 487 = .ok (.iadd, 1) := by decide +kernel
theorem dL_law_488 : decode code 488 = .ok (.iaload, 1) := by decide +kernel
theorem dL_law_489 : decode code 489 = .ok (.aload_n 0, 1) := by decide +kernel
theorem dL_law_490 : decode code 490 = .ok (.iload_n 3, 1) := by decide +kernel
theorem dL_law_491 : decode code 491 = .ok (.iconst 2, 1) := by decide +kernel
theorem dL_law_492 : decode code 492 = .ok (.iadd, 1) := by decide +kernel
theorem dL_law_493 : decode code 493 = .ok (.iaload, 1) := by decide +kernel
theorem dL_law_494 : decode code 494 = .ok (.aload_n 0, 1) := by decide +kernel
theorem dL_law_495 : decode code 495 = .ok (.iload_n 3, 1) := by decide +kernel
theorem dL_law_496 : decode code 496 = .ok (.iconst 3, 1) := by decide +kernel
theorem dL_law_497 : decode code 497 = .ok (.iadd, 1) := by decide +kernel
theorem dL_law_498 : decode code 498 = .ok (.iaload, 1) := by decide +kernel
theorem dL_law_499 : decode code 499 = .ok (.invokevirtual 45, 3) := by decide +kernel
theorem dL_law_502 : decode code 502 = .ok (.aload_n 2, 1) := by decide +kernel
theorem dL_law_503 : decode code 503 = .ok (.aload_n 0, 1) := by decide +kernel
theorem dL_law_504 : decode code 504 = .ok (.iload_n 3, 1) := by decide +kernel
theorem dL_law_505 : decode code 505 = .ok (.iconst 1, 1) := by decide +kernel
theorem dL_law_506 : decode code 506 = .ok (.iadd, 1) := by decide +kernel
theorem dL_law_507 : decode code 507 = .ok (.iaload, 1) := by decide +kernel
theorem dL_law_508 : decode code 508 = .ok (.aload_n 0, 1) := by decide +kernel
theorem dL_law_509 : decode code 509 = .ok (.iload_n 3, 1) := by decide +kernel
theorem dL_law_510 : decode code 510 = .ok (.iconst 2, 1) := by decide +kernel
theorem dL_law_511 : decode code 511 = .ok (.iadd, 1) := by decide +kernel
theorem dL_law_512 : decode code 512 = .ok (.iaload, 1) := by decide +kernel
theorem dL_law_513 : decode code 513 = .ok (.aload_n 0, 1) := by decide +kernel
theorem dL_law_514 : decode code 514 = .ok (.iload_n 3, 1) := by decide +kernel
theorem dL_law_515 : decode code 515 = .ok (.iconst 3, 1) := by decide +kernel
theorem dL_law_516 : decode code 516 = .ok (.iadd, 1) := by decide +kernel
theorem dL_law_517 : decode code 517 = .ok (.iaload, 1) := by decide +kernel
theorem dL_law_518 : decode code 518 = .ok (.invokevirtual 48, 3) := by decide +kernel
theorem dL_law_521 : decode code 521 = .ok (.if_icmp .eq 872, 3) := by decide +kernel
theorem dL_law_524 : decode code 524 = .ok (.iconst 0, 1) := by decide +kernel
theorem dL_law_525 : decode code 525 = .ok (.ireturn, 1) := by decide +kernel
theorem dL_law_526 : decode code 526 = .ok (.aload_n 1, 1) := by decide +kernel
theorem dL_law_527 : decode code 527 = .ok (.aload_n 0, 1) := by decide +kernel
theorem dL_law_528 : decode code 528 = .ok (.iload_n 3, 1) := by decide +kernel
theorem dL_law_529 : decode code 529 = .ok (.iconst 1, 1) := by decide +kernel
theorem dL_law_530 : decode code 530 = .ok (.iadd, 1) := by decide +kernel
theorem dL_law_531 : decode code 531 = .ok (.iaload, 1) := by decide +kernel
theorem dL_law_532 : decode code 532 = .ok (.invokevirtual 49, 3) := by decide +kernel
theorem dL_law_535 : decode code 535 = .ok (.aload_n 2, 1) := by decide +kernel
theorem dL_law_536 : decode code 536 = .ok (.aload_n 0, 1) := by decide +kernel
theorem dL_law_537 : decode code 537 = .ok (.iload_n 3, 1) := by decide +kernel
theorem dL_law_538 : decode code 538 = .ok (.iconst 1, 1) := by decide +kernel
theorem dL_law_539 : decode code 539 = .ok (.iadd, 1) := by decide +kernel
theorem dL_law_540 : decode code 540 = .ok (.iaload, 1) := by decide +kernel
theorem dL_law_541 : decode code 541 = .ok (.invokevirtual 52, 3) := by decide +kernel
theorem dL_law_544 : decode code 544 = .ok (.if_icmp .eq 849, 3) := by decide +kernel
theorem dL_law_547 : decode code 547 = .ok (.iconst 0, 1) := by decide +kernel
theorem dL_law_548 : decode code 548 = .ok (.ireturn, 1) := by decide +kernel
theorem dL_law_549 : decode code 549 = .ok (.aload_n 1, 1) := by decide +kernel
theorem dL_law_550 : decode code 550 = .ok (.aload_n 0, 1) := by decide +kernel
theorem dL_law_551 : decode code 551 = .ok (.iload_n 3, 1) := by decide +kernel
theorem dL_law_552 : decode code 552 = .ok (.iconst 1, 1) := by decide +kernel
theorem dL_law_553 : decode code 553 = .ok (.iadd, 1) := by decide +kernel
theorem dL_law_554 : decode code 554 = .ok (.iaload, 1) := by decide +kernel
theorem dL_law_555 : decode code 555 = .ok (.invokevirtual 53, 3) := by decide +kernel
theorem dL_law_558 : decode code 558 = .ok (.aload_n 2, 1) := by decide +kernel
theorem dL_law_559 : decode code 559 = .ok (.aload_n 0, 1) := by decide +kernel
theorem dL_law_560 : decode code 560 = .ok (.iload_n 3, 1) := by decide +kernel
theorem dL_law_561 : decode code 561 = .ok (.iconst 1, 1) := by decide +kernel
theorem dL_law_562 : decode code 562 = .ok (.iadd, 1) := by decide +kernel
theorem dL_law_563 : decode code 563 = .ok (.iaload, 1) := by decide +kernel
theorem dL_law_564 : decode code 564 = .ok (.invokevirtual 56, 3) := by decide +kernel
theorem dL_law_567 : decode code 567 = .ok (.if_icmp .eq 826, 3) := by decide +kernel
theorem dL_law_570 : decode code 570 = .ok (.iconst 0, 1) := by decide +kernel
theorem dL_law_571 : decode code 571 = .ok (.ireturn, 1) := by decide +kernel
theorem dL_law_572 : decode code 572 = .ok (.aload_n 1, 1) := by decide +kernel
theorem dL_law_573 : decode code 573 = .ok (.aload_n 0, 1) := by decide +kernel
theorem dL_law_574 : decode code 574 = .ok (.iload_n 3, 1) := by decide +kernel
theorem dL_law_575 : decode code 575 = .ok (.iconst 1, 1) := by decide +kernel
theorem dL_law_576 : decode code 576 = .ok (.iadd, 1) := by decide +kernel
theorem dL_law_577 : decode code 577 = .ok (.iaload, 1) := by decide +kernel
theorem dL_law_578 : decode code 578 = .ok (.aload_n 0, 1) := by decide +kernel
theorem dL_law_579 : decode code 579 = .ok (.iload_n 3, 1) := by decide +kernel
theorem dL_law_580 : decode code 580 = .ok (.iconst 2, 1) := by decide +kernel
theorem dL_law_581 : decode code 581 = .ok (.iadd, 1) := by decide +kernel
theorem dL_law_582 : decode code 582 = .ok (.iaload, 1) := by decide +kernel
theorem dL_law_583 : decode code 583 = .ok (.invokevirtual 57, 3) := by decide +kernel
theorem dL_law_586 : decode code 586 = .ok (.aload_n 2, 1) := by decide +kernel
theorem dL_law_587 : decode code 587 = .ok (.aload_n 0, 1) := by decide +kernel
theorem dL_law_588 : decode code 588 = .ok (.iload_n 3, 1) := by decide +kernel
theorem dL_law_589 : decode code 589 = .ok (.iconst 1, 1) := by decide +kernel
theorem dL_law_590 : decode code 590 = .ok (.iadd, 1) := by decide +kernel
theorem dL_law_591 : decode code 591 = .ok (.iaload, 1) := by decide +kernel
theorem dL_law_592 : decode code 592 = .ok (.aload_n 0, 1) := by decide +kernel
theorem dL_law_593 : decode code 593 = .ok (.iload_n 3, 1) := by decide +kernel
theorem dL_law_594 : decode code 594 = .ok (.iconst 2, 1) := by decide +kernel
theorem dL_law_595 : decode code 595 = .ok (.iadd, 1) := by decide +kernel
theorem dL_law_596 : decode code 596 = .ok (.iaload, 1) := by decide +kernel
theorem dL_law_597 : decode code 597 = .ok (.invokevirtual 60, 3) := by decide +kernel
theorem dL_law_600 : decode code 600 = .ok (.if_icmp .eq 793, 3) := by decide +kernel
theorem dL_law_603 : decode code 603 = .ok (.iconst 0, 1) := by decide +kernel
theorem dL_law_604 : decode code 604 = .ok (.ireturn, 1) := by decide +kernel
theorem dL_law_605 : decode code 605 = .ok (.aload_n 1, 1) := by decide +kernel
theorem dL_law_606 : decode code 606 = .ok (.aload_n 0, 1) := by decide +kernel
theorem dL_law_607 : decode code 607 = .ok (.iload_n 3, 1) := by decide +kernel
theorem dL_law_608 : decode code 608 = .ok (.iconst 1, 1) := by decide +kernel
theorem dL_law_609 : decode code 609 = .ok (.iadd, 1) := by decide +kernel
theorem dL_law_610 : decode code 610 = .ok (.iaload, 1) := by decide +kernel
theorem dL_law_611 : decode code 611 = .ok (.aload_n 0, 1) := by decide +kernel
theorem dL_law_612 : decode code 612 = .ok (.iload_n 3, 1) := by decide +kernel
theorem dL_law_613 : decode code 613 = .ok (.iconst 2, 1) := by decide +kernel
theorem dL_law_614 : decode code 614 = .ok (.iadd, 1) := by decide +kernel
theorem dL_law_615 : decode code 615 = .ok (.iaload, 1) := by decide +kernel
theorem dL_law_616 : decode code 616 = .ok (.invokevirtual 61, 3) := by decide +kernel
theorem dL_law_619 : decode code 619 = .ok (.aload_n 2, 1) := by decide +kernel
theorem dL_law_620 : decode code 620 = .ok (.aload_n 0, 1) := by decide +kernel
theorem dL_law_621 : decode code 621 = .ok (.iload_n 3, 1) := by decide +kernel
theorem dL_law_622 : decode code 622 = .ok (.iconst 1, 1) := by decide +kernel
theorem dL_law_623 : decode code 623 = .ok (.iadd, 1) := by decide +kernel
theorem dL_law_624 : decode code 624 = .ok (.iaload, 1) := by decide +kernel
theorem dL_law_625 : decode code 625 = .ok (.aload_n 0, 1) := by decide +kernel
theorem dL_law_626 : decode code 626 = .ok (.iload_n 3, 1) := by decide +kernel
theorem dL_law_627 : decode code 627 = .ok (.iconst 2, 1) := by decide +kernel
theorem dL_law_628 : decode code 628 = .ok (.iadd, 1) := by decide +kernel
theorem dL_law_629 : decode code 629 = .ok (.iaload, 1) := by decide +kernel
theorem dL_law_630 : decode code 630 = .ok (.invokevirtual 64, 3) := by decide +kernel
theorem dL_law_633 : decode code 633 = .ok (.if_icmp .eq 760, 3) := by decide +kernel
theorem dL_law_636 : decode code 636 = .ok (.iconst 0, 1) := by decide +kernel
theorem dL_law_637 : decode code 637 = .ok (.ireturn, 1) := by decide +kernel
theorem dL_law_638 : decode code 638 = .ok (.aload_n 1, 1) := by decide +kernel
theorem dL_law_639 : decode code 639 = .ok (.aload_n 0, 1) := by decide +kernel
theorem dL_law_640 : decode code 640 = .ok (.iload_n 3, 1) := by decide +kernel
theorem dL_law_641 : decode code 641 = .ok (.iconst 1, 1) := by decide +kernel
theorem dL_law_642 : decode code 642 = .ok (.iadd, 1) := by decide +kernel
theorem dL_law_643 : decode code 643 = .ok (.iaload, 1) := by decide +kernel
theorem dL_law_644 : decode code 644 = .ok (.invokevirtual 65, 3) := by decide +kernel
theorem dL_law_647 : decode code 647 = .ok (.aload_n 2, 1) := by decide +kernel
theorem dL_law_648 : decode code 648 = .ok (.aload_n 0, 1) := by decide +kernel
theorem dL_law_649 : decode code 649 = .ok (.iload_n 3, 1) := by decide +kernel
theorem dL_law_650 : decode code 650 = .ok (.iconst 1, 1) := by decide +kernel
theorem dL_law_651 : decode code 651 = .ok (.iadd, 1) := by decide +kernel
theorem dL_law_652 : decode code 652 = .ok (.iaload, 1) := by decide +kernel
theorem dL_law_653 : decode code 653 = .ok (.invokevirtual 68, 3) := by decide +kernel
theorem dL_law_656 : decode code 656 = .ok (.if_icmp .eq 737, 3) := by decide +kernel
theorem dL_law_659 : decode code 659 = .ok (.iconst 0, 1) := by decide +kernel
theorem dL_law_660 : decode code 660 = .ok (.ireturn, 1) := by decide +kernel
theorem dL_law_661 : decode code 661 = .ok (.aload_n 1, 1) := by decide +kernel
theorem dL_law_662 : decode code 662 = .ok (.aload_n 0, 1) := by decide +kernel
theorem dL_law_663 : decode code 663 = .ok (.iload_n 3, 1) := by decide +kernel
theorem dL_law_664 : decode code 664 = .ok (.iconst 1, 1) := by decide +kernel
theorem dL_law_665 : decode code 665 = .ok (.iadd, 1) := by decide +kernel
theorem dL_law_666 : decode code 666 = .ok (.iaload, 1) := by decide +kernel
theorem dL_law_667 : decode code 667 = .ok (.invokevirtual 69, 3) := by decide +kernel
theorem dL_law_670 : decode code 670 = .ok (.aload_n 2, 1) := by decide +kernel
theorem dL_law_671 : decode code 671 = .ok (.aload_n 0, 1) := by decide +kernel
theorem dL_law_672 : decode code 672 = .ok (.iload_n 3, 1) := by decide +kernel
theorem dL_law_673 : decode code 673 = .ok (.iconst 1, 1) := by decide +kernel
theorem dL_law_674 : decode code 674 = .ok (.iadd, 1) := by decide +kernel
theorem dL_law_675 : decode code 675 = .ok (.iaload, 1) := by decide +kernel
theorem dL_law_676 : decode code 676 = .ok (.invokevirtual 72, 3) := by decide +kernel
theorem dL_law_679 : decode code 679 = .ok (.if_icmp .eq 714, 3) := by decide +kernel
theorem dL_law_682 : decode code 682 = .ok (.iconst 0, 1) := by decide +kernel
theorem dL_law_683 : decode code 683 = .ok (.ireturn, 1) := by decide +kernel
theorem dL_law_684 : decode code 684 = .ok (.aload_n 1, 1) := by decide +kernel
theorem dL_law_685 : decode code 685 = .ok (.aload_n 0, 1) := by decide +kernel
theorem dL_law_686 : decode code 686 = .ok (.iload_n 3, 1) := by decide +kernel
theorem dL_law_687 : decode code 687 = .ok (.iconst 1, 1) := by decide +kernel
theorem dL_law_688 : decode code 688 = .ok (.iadd, 1) := by decide +kernel
theorem dL_law_689 : decode code 689 = .ok (.iaload, 1) := by decide +kernel
theorem dL_law_690 : decode code 690 = .ok (.invokevirtual 73, 3) := by decide +kernel
theorem dL_law_693 : decode code 693 = .ok (.aload_n 2, 1) := by decide +kernel
theorem dL_law_694 : decode code 694 = .ok (.aload_n 0, 1) := by decide +kernel
theorem dL_law_695 : decode code 695 = .ok (.iload_n 3, 1) := by decide +kernel
theorem dL_law_696 : decode code 696 = .ok (.iconst 1, 1) := by decide +kernel
theorem dL_law_697 : decode code 697 = .ok (.iadd, 1) := by decide +kernel
theorem dL_law_698 : decode code 698 = .ok (.iaload, 1) := by decide +kernel
theorem dL_law_699 : decode code 699 = .ok (.invokevirtual 76, 3) := by decide +kernel
theorem dL_law_702 : decode code 702 = .ok (.if_icmp .eq 691, 3) := by decide +kernel
theorem dL_law_705 : decode code 705 = .ok (.iconst 0, 1) := by decide +kernel
theorem dL_law_706 : decode code 706 = .ok (.ireturn, 1) := by decide +kernel
theorem dL_law_707 : decode code 707 = .ok (.aload_n 1, 1) := by decide +kernel
theorem dL_law_708 : decode code 708 = .ok (.invokevirtual 77, 3) := by decide +kernel
theorem dL_law_711 : decode code 711 = .ok (.aload_n 2, 1) := by decide +kernel
theorem dL_law_712 : decode code 712 = .ok (.invokevirtual 81, 3) := by decide +kernel
theorem dL_law_715 : decode code 715 = .ok (.if_icmp .eq 678, 3) := by decide +kernel
theorem dL_law_718 : decode code 718 = .ok (.iconst 0, 1) := by decide +kernel
theorem dL_law_719 : decode code 719 = .ok (.ireturn, 1) := by decide +kernel
theorem dL_law_720 : decode code 720 = .ok (.aload_n 1, 1) := by decide +kernel
theorem dL_law_721 : decode code 721 = .ok (.aload_n 0, 1) := by decide +kernel
theorem dL_law_722 : decode code 722 = .ok (.iload_n 3, 1) := by decide +kernel
theorem dL_law_723 : decode code 723 = .ok (.iconst 1, 1) := by decide +kernel
theorem dL_law_724 : decode code 724 = .ok (.iadd, 1) := by decide +kernel
theorem dL_law_725 : decode code 725 = .ok (.iaload, 1) := by decide +kernel
theorem dL_law_726 : decode code 726 = .ok (.invokevirtual 82, 3) := by decide +kernel
theorem dL_law_729 : decode code 729 = .ok (.aload_n 2, 1) := by decide +kernel
theorem dL_law_730 : decode code 730 = .ok (.aload_n 0, 1) := by decide +kernel
theorem dL_law_731 : decode code 731 = .ok (.iload_n 3, 1) := by decide +kernel
theorem dL_law_732 : decode code 732 = .ok (.iconst 1, 1) := by decide +kernel
theorem dL_law_733 : decode code 733 = .ok (.iadd, 1) := by decide +kernel
theorem dL_law_734 : decode code 734 = .ok (.iaload, 1) := by decide +kernel
theorem dL_law_735 : decode code 735 = .ok (.invokevirtual 85, 3) := by decide +kernel
theorem dL_law_738 : decode code 738 = .ok (.if_icmp .eq 655, 3) := by decide +kernel
theorem dL_law_741 : decode code 741 = .ok (.iconst 0, 1) := by decide +kernel
theorem dL_law_742 : decode code 742 = .ok (.ireturn, 1) := by decide +kernel
theorem dL_law_743 : decode code 743 = .ok (.aload_n 1, 1) := by decide +kernel
theorem dL_law_744 : decode code 744 = .ok (.aload_n 0, 1) := by decide +kernel
theorem dL_law_745 : decode code 745 = .ok (.iload_n 3, 1) := by decide +kernel
theorem dL_law_746 : decode code 746 = .ok (.iconst 1, 1) := by decide +kernel
theorem dL_law_747 : decode code 747 = .ok (.iadd, 1) := by decide +kernel
theorem dL_law_748 : decode code 748 = .ok (.iaload, 1) := by decide +kernel
theorem dL_law_749 : decode code 749 = .ok (.invokevirtual 86, 3) := by decide +kernel
theorem dL_law_752 : decode code 752 = .ok (.aload_n 2, 1) := by decide +kernel
theorem dL_law_753 : decode code 753 = .ok (.aload_n 0, 1) := by decide +kernel
theorem dL_law_754 : decode code 754 = .ok (.iload_n 3, 1) := by decide +kernel
theorem dL_law_755 : decode code 755 = .ok (.iconst 1, 1) := by decide +kernel
theorem dL_law_756 : decode code 756 = .ok (.iadd, 1) := by decide +kernel
theorem dL_law_757 : decode code 757 = .ok (.iaload, 1) := by decide +kernel
theorem dL_law_758 : decode code 758 = .ok (.invokevirtual 89, 3) := by decide +kernel
theorem dL_law_761 : decode code 761 = .ok (.if_icmp .eq 632, 3) := by decide +kernel
theorem dL_law_764 : decode code 764 = .ok (.iconst 0, 1) := by decide +kernel
theorem dL_law_765 : decode code 765 = .ok (.ireturn, 1) := by decide +kernel
theorem dL_law_766 : decode code 766 = .ok (.aload_n 1, 1) := by decide +kernel
theorem dL_law_767 : decode code 767 = .ok (.aload_n 0, 1) := by decide +kernel
theorem dL_law_768 : decode code 768 = .ok (.iload_n 3, 1) := by decide +kernel
theorem dL_law_769 : decode code 769 = .ok (.iconst 1, 1) := by decide +kernel
theorem dL_law_770 : decode code 770 = .ok (.iadd, 1) := by decide +kernel
theorem dL_law_771 : decode code 771 = .ok (.iaload, 1) := by decide +kernel
theorem dL_law_772 : decode code 772 = .ok (.invokevirtual 90, 3) := by decide +kernel
theorem dL_law_775 : decode code 775 = .ok (.aload_n 2, 1) := by decide +kernel
theorem dL_law_776 : decode code 776 = .ok (.aload_n 0, 1) := by decide +kernel
theorem dL_law_777 : decode code 777 = .ok (.iload_n 3, 1) := by decide +kernel
theorem dL_law_778 : decode code 778 = .ok (.iconst 1, 1) := by decide +kernel
theorem dL_law_779 : decode code 779 = .ok (.iadd, 1) := by decide +kernel
theorem dL_law_780 : decode code 780 = .ok (.iaload, 1) := by decide +kernel
theorem dL_law_781 : decode code 781 = .ok (.invokevirtual 93, 3) := by decide +kernel
theorem dL_law_784 : decode code 784 = .ok (.if_icmp .eq 609, 3) := by decide +kernel
theorem dL_law_787 : decode code 787 = .ok (.iconst 0, 1) := by decide +kernel
theorem dL_law_788 : decode code 788 = .ok (.ireturn, 1) := by decide +kernel
theorem dL_law_789 : decode code 789 = .ok (.aload_n 1, 1) := by decide +kernel
theorem dL_law_790 : decode code 790 = .ok (.aload_n 0, 1) := by decide +kernel
theorem dL_law_791 : decode code 791 = .ok (.iload_n 3, 1) := by decide +kernel
theorem dL_law_792 : decode code 792 = .ok (.iconst 1, 1) := by decide +kernel
theorem dL_law_793 : decode code 793 = .ok (.iadd, 1) := by decide +kernel
theorem dL_law_794 : decode code 794 = .ok (.iaload, 1) := by decide +kernel
theorem dL_law_795 : decode code 795 = .ok (.invokevirtual 94, 3) := by decide +kernel
theorem dL_law_798 : decode code 798 = .ok (.aload_n 2, 1) := by decide +kernel
theorem dL_law_799 : decode code 799 = .ok (.aload_n 0, 1) := by decide +kernel
theorem dL_law_800 : decode code 800 = .ok (.iload_n 3, 1) := by decide +kernel
theorem dL_law_801 : decode code 801 = .ok (.iconst 1, 1) := by decide +kernel
theorem dL_law_802 : decode code 802 = .ok (.iadd, 1) := by decide +kernel
theorem dL_law_803 : decode code 803 = .ok (.iaload, 1) := by decide +kernel
theorem dL_law_804 : decode code 804 = .ok (.invokevirtual 97, 3) := by decide +kernel
theorem dL_law_807 : decode code 807 = .ok (.if_icmp .eq 586, 3) := by decide +kernel
theorem dL_law_810 : decode code 810 = .ok (.iconst 0, 1) := by decide +kernel
theorem dL_law_811 : decode code 811 = .ok (.ireturn, 1) := by decide +kernel
theorem dL_law_812 : decode code 812 = .ok (.aload_n 1, 1) := by decide +kernel
theorem dL_law_813 : decode code 813 = .ok (.invokevirtual 98, 3) := by decide +kernel
theorem dL_law_816 : decode code 816 = .ok (.aload_n 2, 1) := by decide +kernel
theorem dL_law_817 : decode code 817 = .ok (.invokevirtual 101, 3) := by decide +kernel
theorem dL_law_820 : decode code 820 = .ok (.if_icmp .eq 573, 3) := by decide +kernel
theorem dL_law_823 : decode code 823 = .ok (.iconst 0, 1) := by decide +kernel
theorem dL_law_824 : decode code 824 = .ok (.ireturn, 1) := by decide +kernel
theorem dL_law_825 : decode code 825 = .ok (.aload_n 1, 1) := by decide +kernel
theorem dL_law_826 : decode code 826 = .ok (.aload_n 0, 1) := by decide +kernel
theorem dL_law_827 : decode code 827 = .ok (.iload_n 3, 1) := by decide +kernel
theorem dL_law_828 : decode code 828 = .ok (.iconst 1, 1) := by decide +kernel
theorem dL_law_829 : decode code 829 = .ok (.iadd, 1) := by decide +kernel
theorem dL_law_830 : decode code 830 = .ok (.iaload, 1) := by decide +kernel
theorem dL_law_831 : decode code 831 = .ok (.invokevirtual 102, 3) := by decide +kernel
theorem dL_law_834 : decode code 834 = .ok (.aload_n 2, 1) := by decide +kernel
theorem dL_law_835 : decode code 835 = .ok (.aload_n 0, 1) := by decide +kernel
theorem dL_law_836 : decode code 836 = .ok (.iload_n 3, 1) := by decide +kernel
theorem dL_law_837 : decode code 837 = .ok (.iconst 1, 1) := by decide +kernel
theorem dL_law_838 : decode code 838 = .ok (.iadd, 1) := by decide +kernel
theorem dL_law_839 : decode code 839 = .ok (.iaload, 1) := by decide +kernel
theorem dL_law_840 : decode code 840 = .ok (.invokevirtual 105, 3) := by decide +kernel
theorem dL_law_843 : decode code 843 = .ok (.if_icmp .eq 550, 3) := by decide +kernel
theorem dL_law_846 : decode code 846 = .ok (.iconst 0, 1) := by decide +kernel
theorem dL_law_847 : decode code 847 = .ok (.ireturn, 1) := by decide +kernel
theorem dL_law_848 : decode code 848 = .ok (.aload_n 1, 1) := by decide +kernel
theorem dL_law_849 : decode code 849 = .ok (.invokevirtual 106, 3) := by decide +kernel
theorem dL_law_852 : decode code 852 = .ok (.aload_n 2, 1) := by decide +kernel
theorem dL_law_853 : decode code 853 = .ok (.invokevirtual 109, 3) := by decide +kernel
theorem dL_law_856 : decode code 856 = .ok (.if_icmp .eq 537, 3) := by decide +kernel
theorem dL_law_859 : decode code 859 = .ok (.iconst 0, 1) := by decide +kernel
theorem dL_law_860 : decode code 860 = .ok (.ireturn, 1) := by decide +kernel
theorem dL_law_861 : decode code 861 = .ok (.aload_n 1, 1) := by decide +kernel
theorem dL_law_862 : decode code 862 = .ok (.aload_n 0, 1) := by decide +kernel
theorem dL_law_863 : decode code 863 = .ok (.iload_n 3, 1) := by decide +kernel
theorem dL_law_864 : decode code 864 = .ok (.iconst 1, 1) := by decide +kernel
theorem dL_law_865 : decode code 865 = .ok (.iadd, 1) := by decide +kernel
theorem dL_law_866 : decode code 866 = .ok (.iaload, 1) := by decide +kernel
theorem dL_law_867 : decode code 867 = .ok (.invokevirtual 110, 3) := by decide +kernel
theorem dL_law_870 : decode code 870 = .ok (.aload_n 2, 1) := by decide +kernel
theorem dL_law_871 : decode code 871 = .ok (.aload_n 0, 1) := by decide +kernel
theorem dL_law_872 : decode code 872 = .ok (.iload_n 3, 1) := by decide +kernel
theorem dL_law_873 : decode code 873 = .ok (.iconst 1, 1) := by decide +kernel
theorem dL_law_874 : decode code 874 = .ok (.iadd, 1) := by decide +kernel
theorem dL_law_875 : decode code 875 = .ok (.iaload, 1) := by decide +kernel
theorem dL_law_876 : decode code 876 = .ok (.invokevirtual 113, 3) := by decide +kernel
theorem dL_law_879 : decode code 879 = .ok (.if_icmp .eq 514, 3) := by decide +kernel
theorem dL_law_882 : decode code 882 = .ok (.iconst 0, 1) := by decide +kernel
theorem dL_law_883 : decode code 883 = .ok (.ireturn, 1) := by decide +kernel
theorem dL_law_884 : decode code 884 = .ok (.aload_n 1, 1) := by decide +kernel
theorem dL_law_885 : decode code 885 = .ok (.aload_n 0, 1) := by decide +kernel
theorem dL_law_886 : decode code 886 = .ok (.iload_n 3, 1) := by decide +kernel
theorem dL_law_887 : decode code 887 = .ok (.iconst 1, 1) := by decide +kernel
theorem dL_law_888 : decode code 888 = .ok (.iadd, 1) := by decide +kernel
theorem dL_law_889 : decode code 889 = .ok (.iaload, 1) := by decide +kernel
theorem dL_law_890 : decode code 890 = .ok (.aload_n 0, 1) := by decide +kernel
theorem dL_law_891 : decode code 891 = .ok (.iload_n 3, 1) := by decide +kernel
theorem dL_law_892 : decode code 892 = .ok (.iconst 2, 1) := by decide +kernel
theorem dL_law_893 : decode code 893 = .ok (.iadd, 1) := by decide +kernel
theorem dL_law_894 : decode code 894 = .ok (.iaload, 1) := by decide +kernel
theorem dL_law_895 : decode code 895 = .ok (.invokevirtual 114, 3) := by decide +kernel
theorem dL_law_898 : decode code 898 = .ok (.aload_n 2, 1) := by decide +kernel
theorem dL_law_899 : decode code 899 = .ok (.aload_n 0, 1) := by decide +kernel
theorem dL_law_900 : decode code 900 = .ok (.iload_n 3, 1) := by decide +kernel
theorem dL_law_901 : decode code 901 = .ok (.iconst 1, 1) := by decide +kernel
theorem dL_law_902 : decode code 902 = .ok (.iadd, 1) := by decide +kernel
theorem dL_law_903 : decode code 903 = .ok (.iaload, 1) := by decide +kernel
theorem dL_law_904 : decode code 904 = .ok (.aload_n 0, 1) := by decide +kernel
theorem dL_law_905 : decode code 905 = .ok (.iload_n 3, 1) := by decide +kernel
theorem dL_law_906 : decode code 906 = .ok (.iconst 2, 1) := by decide +kernel
theorem dL_law_907 : decode code 907 = .ok (.iadd, 1) := by decide +kernel
theorem dL_law_908 : decode code 908 = .ok (.iaload, 1) := by decide +kernel
theorem dL_law_909 : decode code 909 = .ok (.invokevirtual 117, 3) := by decide +kernel
theorem dL_law_912 : decode code 912 = .ok (.if_icmp .eq 481, 3) := by decide +kernel
theorem dL_law_915 : decode code 915 = .ok (.iconst 0, 1) := by decide +kernel
theorem dL_law_916 : decode code 916 = .ok (.ireturn, 1) := by decide +kernel
theorem dL_law_917 : decode code 917 = .ok (.aload_n 1, 1) := by decide +kernel
theorem dL_law_918 : decode code 918 = .ok (.aload_n 0, 1) := by decide +kernel
theorem dL_law_919 : decode code 919 = .ok (.iload_n 3, 1) := by decide +kernel
theorem dL_law_920 : decode code 920 = .ok (.iconst 1, 1) := by decide +kernel
theorem dL_law_921 : decode code 921 = .ok (.iadd, 1) := by decide +kernel
theorem dL_law_922 : decode code 922 = .ok (.iaload, 1) := by decide +kernel
theorem dL_law_923 : decode code 923 = .ok (.aload_n 0, 1) := by decide +kernel
theorem dL_law_924 : decode code 924 = .ok (.iload_n 3, 1) := by decide +kernel
theorem dL_law_925 : decode code 925 = .ok (.iconst 2, 1) := by decide +kernel
theorem dL_law_926 : decode code 926 = .ok (.iadd, 1) := by decide +kernel
theorem dL_law_927 : decode code 927 = .ok (.iaload, 1) := by decide +kernel
theorem dL_law_928 : decode code 928 = .ok (.aload_n 0, 1) := by decide +kernel
theorem dL_law_929 : decode code 929 = .ok (.iload_n 3, 1) := by decide +kernel
theorem dL_law_930 : decode code 930 = .ok (.iconst 3, 1) := by decide +kernel
theorem dL_law_931 : decode code 931 = .ok (.iadd, 1) := by decide +kernel
theorem dL_law_932 : decode code 932 = .ok (.iaload, 1) := by decide +kernel
theorem dL_law_933 : decode code 933 = .ok (.invokevirtual 118, 3) := by decide +kernel
theorem dL_law_936 : decode code 936 = .ok (.aload_n 2, 1) := by decide +kernel
theorem dL_law_937 : decode code 937 = .ok (.aload_n 0, 1) := by decide +kernel
theorem dL_law_938 : decode code 938 = .ok (.iload_n 3, 1) := by decide +kernel
theorem dL_law_939 : decode code 939 = .ok (.iconst 1, 1) := by decide +kernel
theorem dL_law_940 : decode code 940 = .ok (.iadd, 1) := by decide +kernel
theorem dL_law_941 : decode code 941 = .ok (.iaload, 1) := by decide +kernel
theorem dL_law_942 : decode code 942 = .ok (.aload_n 0, 1) := by decide +kernel
theorem dL_law_943 : decode code 943 = .ok (.iload_n 3, 1) := by decide +kernel
theorem dL_law_944 : decode code 944 = .ok (.iconst 2, 1) := by decide +kernel
theorem dL_law_945 : decode code 945 = .ok (.iadd, 1) := by decide +kernel
theorem dL_law_946 : decode code 946 = .ok (.iaload, 1) := by decide +kernel
theorem dL_law_947 : decode code 947 = .ok (.aload_n 0, 1) := by decide +kernel
theorem dL_law_948 : decode code 948 = .ok (.iload_n 3, 1) := by decide +kernel
theorem dL_law_949 : decode code 949 = .ok (.iconst 3, 1) := by decide +kernel
theorem dL_law_950 : decode code 950 = .ok (.iadd, 1) := by decide +kernel
theorem dL_law_951 : decode code 951 = .ok (.iaload, 1) := by decide +kernel
theorem dL_law_952 : decode code 952 = .ok (.invokevirtual 121, 3) := by decide +kernel
theorem dL_law_955 : decode code 955 = .ok (.if_icmp .eq 438, 3) := by decide +kernel
theorem dL_law_958 : decode code 958 = .ok (.iconst 0, 1) := by decide +kernel
theorem dL_law_959 : decode code 959 = .ok (.ireturn, 1) := by decide +kernel
theorem dL_law_960 : decode code 960 = .ok (.aload_n 1, 1) := by decide +kernel
theorem dL_law_961 : decode code 961 = .ok (.aload_n 0, 1) := by decide +kernel
theorem dL_law_962 : decode code 962 = .ok (.iload_n 3, 1) := by decide +kernel
theorem dL_law_963 : decode code 963 = .ok (.iconst 1, 1) := by decide +kernel
theorem dL_law_964 : decode code 964 = .ok (.iadd, 1) := by decide +kernel
theorem dL_law_965 : decode code 965 = .ok (.iaload, 1) := by decide +kernel
theorem dL_law_966 : decode code 966 = .ok (.invokevirtual 122, 3) := by decide +kernel
theorem dL_law_969 : decode code 969 = .ok (.aload_n 2, 1) := by decide +kernel
theorem dL_law_970 : decode code 970 = .ok (.aload_n 0, 1) := by decide +kernel
theorem dL_law_971 : decode code 971 = .ok (.iload_n 3, 1) := by decide +kernel
theorem dL_law_972 : decode code 972 = .ok (.iconst 1, 1) := by decide +kernel
theorem dL_law_973 : decode code 973 = .ok (.iadd, 1) := by decide +kernel
theorem dL_law_974 : decode code 974 = .ok (.iaload, 1) := by decide +kernel
theorem dL_law_975 : decode code 975 = .ok (.invokevirtual 125, 3) := by decide +kernel
theorem dL_law_978 : decode code 978 = .ok (.if_icmp .eq 415, 3) := by decide +kernel
theorem dL_law_981 : decode code 981 = .ok (.iconst 0, 1) := by decide +kernel
theorem dL_law_982 : decode code 982 = .ok (.ireturn, 1) := by decide +kernel
theorem dL_law_983 : decode code 983 = .ok (.aload_n 1, 1) := by decide +kernel
theorem dL_law_984 : decode code 984 = .ok (.aload_n 0, 1) := by decide +kernel
theorem dL_law_985 : decode code 985 = .ok (.iload_n 3, 1) := by decide +kernel
theorem dL_law_986 : decode code 986 = .ok (.iconst 1, 1) := by decide +kernel
theorem dL_law_987 : decode code 987 = .ok (.iadd, 1) := by decide +kernel
theorem dL_law_988 : decode code 988 = .ok (.iaload, 1) := by decide +kernel
theorem dL_law_989 : decode code 989 = .ok (.invokevirtual 126, 3) := by decide +kernel
theorem dL_law_992 : decode code 992 = .ok (.aload_n 2, 1) := by decide +kernel
theorem dL_law_993 : decode code 993 = .ok (.aload_n 0, 1) := by decide +kernel
theorem dL_law_994 : decode code 994 = .ok (.iload_n 3, 1) := by decide +kernel
theorem dL_law_995 : decode code 995 = .ok (.iconst 1, 1) := by decide +kernel
theorem dL_law_996 : decode code 996 = .ok (.iadd, 1) := by decide +kernel
theorem dL_law_997 : decode code 997 = .ok (.iaload, 1) := by decide +kernel
theorem dL_law_998 : decode code 998 = .ok (.invokevirtual 129, 3) := by decide +kernel
theorem dL_law_1001 : decode code 1001 = .ok (.if_icmp .eq 392, 3) := by decide +kernel
theorem dL_law_1004 : decode code 1004 = .ok (.iconst 0, 1) := by decide +kernel
theorem dL_law_1005 : decode code 1005 = .ok (.ireturn, 1) := by decide +kernel
theorem dL_law_1006 : decode code 1006 = .ok (.aload_n 1, 1) := by decide +kernel
theorem dL_law_1007 : decode code 1007 = .ok (.aload_n 0, 1) := by decide +kernel
theorem dL_law_1008 : decode code 1008 = .ok (.iload_n 3, 1) := by decide +kernel
theorem dL_law_1009 : decode code 1009 = .ok (.iconst 1, 1) := by decide +kernel
theorem dL_law_1010 : decode code 1010 = .ok (.iadd, 1) := by decide +kernel
theorem dL_law_1011 : decode code 1011 = .ok (.iaload, 1) := by decide +kernel
theorem dL_law_1012 : decode code 1012 = .ok (.invokevirtual 130, 3) := by decide +kernel
theorem dL_law_1015 : decode code 1015 = .ok (.aload_n 2, 1) := by decide +kernel
theorem dL_law_1016 : decode code 1016 = .ok (.aload_n 0, 1) := by decide +kernel
theorem dL_law_1017 : decode code 1017 = .ok (.iload_n 3, 1) := by decide +kernel
theorem dL_law_1018 : decode code 1018 = .ok (.iconst 1, 1) := by decide +kernel
theorem dL_law_1019 : decode code 1019 = .ok (.iadd, 1) := by decide +kernel
theorem dL_law_1020 : decode code 1020 = .ok (.iaload, 1) := by decide +kernel
theorem dL_law_1021 : decode code 1021 = .ok (.invokevirtual 133, 3) := by decide +kernel
theorem dL_law_1024 : decode code 1024 = .ok (.if_icmp .eq 369, 3) := by decide +kernel
theorem dL_law_1027 : decode code 1027 = .ok (.iconst 0, 1) := by decide +kernel
theorem dL_law_1028 : decode code 1028 = .ok (.ireturn, 1) := by decide +kernel
theorem dL_law_1029 : decode code 1029 = .ok (.aload_n 1, 1) := by decide +kernel
theorem dL_law_1030 : decode code 1030 = .ok (.aload_n 0, 1) := by decide +kernel
theorem dL_law_1031 : decode code 1031 = .ok (.iload_n 3, 1) := by decide +kernel
theorem dL_law_1032 : decode code 1032 = .ok (.iconst 1, 1) := by decide +kernel
theorem dL_law_1033 : decode code 1033 = .ok (.iadd, 1) := by decide +kernel
theorem dL_law_1034 : decode code 1034 = .ok (.iaload, 1) := by decide +kernel
theorem dL_law_1035 : decode code 1035 = .ok (.invokevirtual 134, 3) := by decide +kernel
theorem dL_law_1038 : decode code 1038 = .ok (.aload_n 2, 1) := by decide +kernel
theorem dL_law_1039 : decode code 1039 = .ok (.aload_n 0, 1) := by decide +kernel
theorem dL_law_1040 : decode code 1040 = .ok (.iload_n 3, 1) := by decide +kernel
theorem dL_law_1041 : decode code 1041 = .ok (.iconst 1, 1) := by decide +kernel
theorem dL_law_1042 : decode code 1042 = .ok (.iadd, 1) := by decide +kernel
theorem dL_law_1043 : decode code 1043 = .ok (.iaload, 1) := by decide +kernel
theorem dL_law_1044 : decode code 1044 = .ok (.invokevirtual 137, 3) := by decide +kernel
theorem dL_law_1047 : decode code 1047 = .ok (.if_icmp .eq 346, 3) := by decide +kernel
theorem dL_law_1050 : decode code 1050 = .ok (.iconst 0, 1) := by decide +kernel
theorem dL_law_1051 : decode code 1051 = .ok (.ireturn, 1) := by decide +kernel
theorem dL_law_1052 : decode code 1052 = .ok (.aload_n 1, 1) := by decide +kernel
theorem dL_law_1053 : decode code 1053 = .ok (.aload_n 0, 1) := by decide +kernel
theorem dL_law_1054 : decode code 1054 = .ok (.iload_n 3, 1) := by decide +kernel
theorem dL_law_1055 : decode code 1055 = .ok (.iconst 1, 1) := by decide +kernel
theorem dL_law_1056 : decode code 1056 = .ok (.iadd, 1) := by decide +kernel
theorem dL_law_1057 : decode code 1057 = .ok (.iaload, 1) := by decide +kernel
theorem dL_law_1058 : decode code 1058 = .ok (.invokevirtual 138, 3) := by decide +kernel
theorem dL_law_1061 : decode code 1061 = .ok (.aload_n 2, 1) := by decide +kernel
theorem dL_law_1062 : decode code 1062 = .ok (.aload_n 0, 1) := by decide +kernel
theorem dL_law_1063 : decode code 1063 = .ok (.iload_n 3, 1) := by decide +kernel
theorem dL_law_1064 : decode code 1064 = .ok (.iconst 1, 1) := by decide +kernel
theorem dL_law_1065 : decode code 1065 = .ok (.iadd, 1) := by decide +kernel
theorem dL_law_1066 : decode code 1066 = .ok (.iaload, 1) := by decide +kernel
theorem dL_law_1067 : decode code 1067 = .ok (.invokevirtual 141, 3) := by decide +kernel
theorem dL_law_1070 : decode code 1070 = .ok (.if_icmp .eq 323, 3) := by decide +kernel
theorem dL_law_1073 : decode code 1073 = .ok (.iconst 0, 1) := by decide +kernel
theorem dL_law_1074 : decode code 1074 = .ok (.ireturn, 1) := by decide +kernel
theorem dL_law_1075 : decode code 1075 = .ok (.aload_n 1, 1) := by decide +kernel
theorem dL_law_1076 : decode code 1076 = .ok (.aload_n 0, 1) := by decide +kernel
theorem dL_law_1077 : decode code 1077 = .ok (.iload_n 3, 1) := by decide +kernel
theorem dL_law_1078 : decode code 1078 = .ok (.iconst 1, 1) := by decide +kernel
theorem dL_law_1079 : decode code 1079 = .ok (.iadd, 1) := by decide +kernel
theorem dL_law_1080 : decode code 1080 = .ok (.iaload, 1) := by decide +kernel
theorem dL_law_1081 : decode code 1081 = .ok (.invokevirtual 142, 3) := by decide +kernel
theorem dL_law_1084 : decode code 1084 = .ok (.aload_n 2, 1) := by decide +kernel
theorem dL_law_1085 : decode code 1085 = .ok (.aload_n 0, 1) := by decide +kernel
theorem dL_law_1086 : decode code 1086 = .ok (.iload_n 3, 1) := by decide +kernel
theorem dL_law_1087 : decode code 1087 = .ok (.iconst 1, 1) := by decide +kernel
theorem dL_law_1088 : decode code 1088 = .ok (.iadd, 1) := by decide +kernel
theorem dL_law_1089 : decode code 1089 = .ok (.iaload, 1) := by decide +kernel
theorem dL_law_1090 : decode code 1090 = .ok (.invokevirtual 145, 3) := by decide +kernel
theorem dL_law_1093 : decode code 1093 = .ok (.if_icmp .eq 300, 3) := by decide +kernel
theorem dL_law_1096 : decode code 1096 = .ok (.iconst 0, 1) := by decide +kernel
theorem dL_law_1097 : decode code 1097 = .ok (.ireturn, 1) := by decide +kernel
theorem dL_law_1098 : decode code 1098 = .ok (.aload_n 1, 1) := by decide +kernel
theorem dL_law_1099 : decode code 1099 = .ok (.aload_n 0, 1) := by decide +kernel
theorem dL_law_1100 : decode code 1100 = .ok (.iload_n 3, 1) := by decide +kernel
theorem dL_law_1101 : decode code 1101 = .ok (.iconst 1, 1) := by decide +kernel
theorem dL_law_1102 : decode code 1102 = .ok (.iadd, 1) := by decide +kernel
theorem dL_law_1103 : decode code 1103 = .ok (.iaload, 1) := by decide +kernel
theorem dL_law_1104 : decode code 1104 = .ok (.invokevirtual 146, 3) := by decide +kernel
theorem dL_law_1107 : decode code 1107 = .ok (.aload_n 2, 1) := by decide +kernel
theorem dL_law_1108 : decode code 1108 = .ok (.aload_n 0, 1) := by decide +kernel
theorem dL_law_1109 : decode code 1109 = .ok (.iload_n 3, 1) := by decide +kernel
theorem dL_law_1110 : decode code 1110 = .ok (.iconst 1, 1) := by decide +kernel
theorem dL_law_1111 : decode code 1111 = .ok (.iadd, 1) := by decide +kernel
theorem dL_law_1112 : decode code 1112 = .ok (.iaload, 1) := by decide +kernel
theorem dL_law_1113 : decode code 1113 = .ok (.invokevirtual 149, 3) := by decide +kernel
theorem dL_law_1116 : decode code 1116 = .ok (.if_icmp .eq 277, 3) := by decide +kernel
theorem dL_law_1119 : decode code 1119 = .ok (.iconst 0, 1) := by decide +kernel
theorem dL_law_1120 : decode code 1120 = .ok (.ireturn, 1) := by decide +kernel
theorem dL_law_1121 : decode code 1121 = .ok (.aload_n 1, 1) := by decide +kernel
theorem dL_law_1122 : decode code 1122 = .ok (.aload_n 0, 1) := by decide +kernel
theorem dL_law_1123 : decode code 1123 = .ok (.iload_n 3, 1) := by decide +kernel
theorem dL_law_1124 : decode code 1124 = .ok (.iconst 1, 1) := by decide +kernel
theorem dL_law_1125 : decode code 1125 = .ok (.iadd, 1) := by decide +kernel
theorem dL_law_1126 : decode code 1126 = .ok (.iaload, 1) := by decide +kernel
theorem dL_law_1127 : decode code 1127 = .ok (.invokevirtual 150, 3) := by decide +kernel
theorem dL_law_1130 : decode code 1130 = .ok (.aload_n 2, 1) := by decide +kernel
theorem dL_law_1131 : decode code 1131 = .ok (.aload_n 0, 1) := by decide +kernel
theorem dL_law_1132 : decode code 1132 = .ok (.iload_n 3, 1) := by decide +kernel
theorem dL_law_1133 : decode code 1133 = .ok (.iconst 1, 1) := by decide +kernel
theorem dL_law_1134 : decode code 1134 = .ok (.iadd, 1) := by decide +kernel
theorem dL_law_1135 : decode code 1135 = .ok (.iaload, 1) := by decide +kernel
theorem dL_law_1136 : decode code 1136 = .ok (.invokevirtual 153, 3) := by decide +kernel
theorem dL_law_1139 : decode code 1139 = .ok (.if_icmp .eq 254, 3) := by decide +kernel
theorem dL_law_1142 : decode code 1142 = .ok (.iconst 0, 1) := by decide +kernel
theorem dL_law_1143 : decode code 1143 = .ok (.ireturn, 1) := by decide +kernel
theorem dL_law_1144 : decode code 1144 = .ok (.aload_n 1, 1) := by decide +kernel
theorem dL_law_1145 : decode code 1145 = .ok (.aload_n 0, 1) := by decide +kernel
theorem dL_law_1146 : decode code 1146 = .ok (.iload_n 3, 1) := by decide +kernel
theorem dL_law_1147 : decode code 1147 = .ok (.iconst 1, 1) := by decide +kernel
theorem dL_law_1148 : decode code 1148 = .ok (.iadd, 1) := by decide +kernel
theorem dL_law_1149 : decode code 1149 = .ok (.iaload, 1) := by decide +kernel
theorem dL_law_1150 : decode code 1150 = .ok (.invokevirtual 154, 3) := by decide +kernel
theorem dL_law_1153 : decode code 1153 = .ok (.aload_n 2, 1) := by decide +kernel
theorem dL_law_1154 : decode code 1154 = .ok (.aload_n 0, 1) := by decide +kernel
theorem dL_law_1155 : decode code 1155 = .ok (.iload_n 3, 1) := by decide +kernel
theorem dL_law_1156 : decode code 1156 = .ok (.iconst 1, 1) := by decide +kernel
theorem dL_law_1157 : decode code 1157 = .ok (.iadd, 1) := by decide +kernel
theorem dL_law_1158 : decode code 1158 = .ok (.iaload, 1) := by decide +kernel
theorem dL_law_1159 : decode code 1159 = .ok (.invokevirtual 157, 3) := by decide +kernel
theorem dL_law_1162 : decode code 1162 = .ok (.if_icmp .eq 231, 3) := by decide +kernel
theorem dL_law_1165 : decode code 1165 = .ok (.iconst 0, 1) := by decide +kernel
theorem dL_law_1166 : decode code 1166 = .ok (.ireturn, 1) := by decide +kernel
theorem dL_law_1167 : decode code 1167 = .ok (.aload_n 1, 1) := by decide +kernel
theorem dL_law_1168 : decode code 1168 = .ok (.aload_n 0, 1) := by decide +kernel
theorem dL_law_1169 : decode code 1169 = .ok (.iload_n 3, 1) := by decide +kernel
theorem dL_law_1170 : decode code 1170 = .ok (.iconst 1, 1) := by decide +kernel
theorem dL_law_1171 : decode code 1171 = .ok (.iadd, 1) := by decide +kernel
theorem dL_law_1172 : decode code 1172 = .ok (.iaload, 1) := by decide +kernel
theorem dL_law_1173 : decode code 1173 = .ok (.invokevirtual 158, 3) := by decide +kernel
theorem dL_law_1176 : decode code 1176 = .ok (.aload_n 2, 1) := by decide +kernel
theorem dL_law_1177 : decode code 1177 = .ok (.aload_n 0, 1) := by decide +kernel
theorem dL_law_1178 : decode code 1178 = .ok (.iload_n 3, 1) := by decide +kernel
theorem dL_law_1179 : decode code 1179 = .ok (.iconst 1, 1) := by decide +kernel
theorem dL_law_1180 : decode code 1180 = .ok (.iadd, 1) := by decide +kernel
theorem dL_law_1181 : decode code 1181 = .ok (.iaload, 1) := by decide +kernel
theorem dL_law_1182 : decode code 1182 = .ok (.invokevirtual 161, 3) := by decide +kernel
theorem dL_law_1185 : decode code 1185 = .ok (.if_icmp .eq 208, 3) := by decide +kernel
theorem dL_law_1188 : decode code 1188 = .ok (.iconst 0, 1) := by decide +kernel
theorem dL_law_1189 : decode code 1189 = .ok (.ireturn, 1) := by decide +kernel
theorem dL_law_1190 : decode code 1190 = .ok (.aload_n 1, 1) := by decide +kernel
theorem dL_law_1191 : decode code 1191 = .ok (.aload_n 0, 1) := by decide +kernel
theorem dL_law_1192 : decode code 1192 = .ok (.iload_n 3, 1) := by decide +kernel
theorem dL_law_1193 : decode code 1193 = .ok (.iconst 1, 1) := by decide +kernel
theorem dL_law_1194 : decode code 1194 = .ok (.iadd, 1) := by decide +kernel
theorem dL_law_1195 : decode code 1195 = .ok (.iaload, 1) := by decide +kernel
theorem dL_law_1196 : decode code 1196 = .ok (.aload_n 0, 1) := by decide +kernel
theorem dL_law_1197 : decode code 1197 = .ok (.iload_n 3, 1) := by decide +kernel
theorem dL_law_1198 : decode code 1198 = .ok (.iconst 2, 1) := by decide +kernel
theorem dL_law_1199 : decode code 1199 = .ok (.iadd, 1) := by decide +kernel
theorem dL_law_1200 : decode code 1200 = .ok (.iaload, 1) := by decide +kernel
theorem dL_law_1201 : decode code 1201 = .ok (.invokevirtual 162, 3) := by decide +kernel
theorem dL_law_1204 : decode code 1204 = .ok (.aload_n 2, 1) := by decide +kernel
theorem dL_law_1205 : decode code 1205 = .ok (.aload_n 0, 1) := by decide +kernel
theorem dL_law_1206 : decode code 1206 = .ok (.iload_n 3, 1) := by decide +kernel
theorem dL_law_1207 : decode code 1207 = .ok (.iconst 1, 1) := by decide +kernel
theorem dL_law_1208 : decode code 1208 = .ok (.iadd, 1) := by decide +kernel
theorem dL_law_1209 : decode code 1209 = .ok (.iaload, 1) := by decide +kernel
theorem dL_law_1210 : decode code 1210 = .ok (.aload_n 0, 1) := by decide +kernel
theorem dL_law_1211 : decode code 1211 = .ok (.iload_n 3, 1) := by decide +kernel
theorem dL_law_1212 : decode code 1212 = .ok (.iconst 2, 1) := by decide +kernel
theorem dL_law_1213 : decode code 1213 = .ok (.iadd, 1) := by decide +kernel
theorem dL_law_1214 : decode code 1214 = .ok (.iaload, 1) := by decide +kernel
theorem dL_law_1215 : decode code 1215 = .ok (.invokevirtual 165, 3) := by decide +kernel
theorem dL_law_1218 : decode code 1218 = .ok (.if_icmp .eq 175, 3) := by decide +kernel
theorem dL_law_1221 : decode code 1221 = .ok (.iconst 0, 1) := by decide +kernel
theorem dL_law_1222 : decode code 1222 = .ok (.ireturn, 1) := by decide +kernel
theorem dL_law_1223 : decode code 1223 = .ok (.aload_n 1, 1) := by decide +kernel
theorem dL_law_1224 : decode code 1224 = .ok (.aload_n 0, 1) := by decide +kernel
theorem dL_law_1225 : decode code 1225 = .ok (.iload_n 3, 1) := by decide +kernel
theorem dL_law_1226 : decode code 1226 = .ok (.iconst 1, 1) := by decide +kernel
theorem dL_law_1227 : decode code 1227 = .ok (.iadd, 1) := by decide +kernel
theorem dL_law_1228 : decode code 1228 = .ok (.iaload, 1) := by decide +kernel
theorem dL_law_1229 : decode code 1229 = .ok (.invokevirtual 166, 3) := by decide +kernel
theorem dL_law_1232 : decode code 1232 = .ok (.aload_n 2, 1) := by decide +kernel
theorem dL_law_1233 : decode code 1233 = .ok (.aload_n 0, 1) := by decide +kernel
theorem dL_law_1234 : decode code 1234 = .ok (.iload_n 3, 1) := by decide +kernel
theorem dL_law_1235 : decode code 1235 = .ok (.iconst 1, 1) := by decide +kernel
theorem dL_law_1236 : decode code 1236 = .ok (.iadd, 1) := by decide +kernel
theorem dL_law_1237 : decode code 1237 = .ok (.iaload, 1) := by decide +kernel
theorem dL_law_1238 : decode code 1238 = .ok (.invokevirtual 169, 3) := by decide +kernel
theorem dL_law_1241 : decode code 1241 = .ok (.if_icmp .eq 152, 3) := by decide +kernel
theorem dL_law_1244 : decode code 1244 = .ok (.iconst 0, 1) := by decide +kernel
theorem dL_law_1245 : decode code 1245 = .ok (.ireturn, 1) := by decide +kernel
theorem dL_law_1246 : decode code 1246 = .ok (.aload_n 1, 1) := by decide +kernel
theorem dL_law_1247 : decode code 1247 = .ok (.aload_n 0, 1) := by decide +kernel
theorem dL_law_1248 : decode code 1248 = .ok (.iload_n 3, 1) := by decide +kernel
theorem dL_law_1249 : decode code 1249 = .ok (.iconst 1, 1) := by decide +kernel
theorem dL_law_1250 : decode code 1250 = .ok (.iadd, 1) := by decide +kernel
theorem dL_law_1251 : decode code 1251 = .ok (.iaload, 1) := by decide +kernel
theorem dL_law_1252 : decode code 1252 = .ok (.aload_n 0, 1) := by decide +kernel
theorem dL_law_1253 : decode code 1253 = .ok (.iload_n 3, 1) := by decide +kernel
theorem dL_law_1254 : decode code 1254 = .ok (.iconst 2, 1) := by decide +kernel
theorem dL_law_1255 : decode code 1255 = .ok (.iadd, 1) := by decide +kernel
theorem dL_law_1256 : decode code 1256 = .ok (.iaload, 1) := by decide +kernel
theorem dL_law_1257 : decode code 1257 = .ok (.invokevirtual 170, 3) := by decide +kernel
theorem dL_law_1260 : decode code 1260 = .ok (.aload_n 2, 1) := by decide +kernel
theorem dL_law_1261 : decode code 1261 = .ok (.aload_n 0, 1) := by decide +kernel
theorem dL_law_1262 : decode code 1262 = .ok (.iload_n 3, 1) := by decide +kernel
theorem dL_law_1263 : decode code 1263 = .ok (.iconst 1, 1) := by decide +kernel
theorem dL_law_1264 : decode code 1264 = .ok (.iadd, 1) := by decide +kernel
theorem dL_law_1265 : decode code 1265 = .ok (.iaload, 1) := by decide +kernel
theorem dL_law_1266 : decode code 1266 = .ok (.aload_n 0, 1) := by decide +kernel
theorem dL_law_1267 : decode code 1267 = .ok (.iload_n 3, 1) := by decide +kernel
theorem dL_law_1268 : decode code 1268 = .ok (.iconst 2, 1) := by decide +kernel
theorem dL_law_1269 : decode code 1269 = .ok (.iadd, 1) := by decide +kernel
theorem dL_law_1270 : decode code 1270 = .ok (.iaload, 1) := by decide +kernel
theorem dL_law_1271 : decode code 1271 = .ok (.invokevirtual 173, 3) := by decide +kernel
theorem dL_law_1274 : decode code 1274 = .ok (.if_icmp .eq 119, 3) := by decide +kernel
theorem dL_law_1277 : decode code 1277 = .ok (.iconst 0, 1) := by decide +kernel
theorem dL_law_1278 : decode code 1278 = .ok (.ireturn, 1) := by decide +kernel
theorem dL_law_1279 : decode code 1279 = .ok (.aload_n 1, 1) := by decide +kernel
theorem dL_law_1280 : decode code 1280 = .ok (.invokevirtual 174, 3) := by decide +kernel
theorem dL_law_1283 : decode code 1283 = .ok (.aload_n 2, 1) := by decide +kernel
theorem dL_law_1284 : decode code 1284 = .ok (.invokevirtual 177, 3) := by decide +kernel
theorem dL_law_1287 : decode code 1287 = .ok (.if_icmp .eq 106, 3) := by decide +kernel
theorem dL_law_1290 : decode code 1290 = .ok (.iconst 0, 1) := by decide +kernel
theorem dL_law_1291 : decode code 1291 = .ok (.ireturn, 1) := by decide +kernel
theorem dL_law_1292 : decode code 1292 = .ok (.aload_n 1, 1) := by decide +kernel
theorem dL_law_1293 : decode code 1293 = .ok (.invokevirtual 178, 3) := by decide +kernel
theorem dL_law_1296 : decode code 1296 = .ok (.aload_n 2, 1) := by decide +kernel
theorem dL_law_1297 : decode code 1297 = .ok (.invokevirtual 182, 3) := by decide +kernel
theorem dL_law_1300 : decode code 1300 = .ok (.lcmp, 1) := by decide +kernel
theorem dL_law_1301 : decode code 1301 = .ok (.ifCond .eq 92, 3) := by decide +kernel
theorem dL_law_1304 : decode code 1304 = .ok (.iconst 0, 1) := by decide +kernel
theorem dL_law_1305 : decode code 1305 = .ok (.ireturn, 1) := by decide +kernel
theorem dL_law_1306 : decode code 1306 = .ok (.aload_n 1, 1) := by decide +kernel
theorem dL_law_1307 : decode code 1307 = .ok (.invokevirtual 183, 3) := by decide +kernel
theorem dL_law_1310 : decode code 1310 = .ok (.aload_n 2, 1) := by decide +kernel
theorem dL_law_1311 : decode code 1311 = .ok (.invokevirtual 186, 3) := by decide +kernel
theorem dL_law_1314 : decode code 1314 = .ok (.lcmp, 1) := by decide +kernel
theorem dL_law_1315 : decode code 1315 = .ok (.ifCond .eq 78, 3) := by decide +kernel
theorem dL_law_1318 : decode code 1318 = .ok (.iconst 0, 1) := by decide +kernel
theorem dL_law_1319 : decode code 1319 = .ok (.ireturn, 1) := by decide +kernel
theorem dL_law_1320 : decode code 1320 = .ok (.aload_n 1, 1) := by decide +kernel
theorem dL_law_1321 : decode code 1321 = .ok (.aload_n 0, 1) := by decide +kernel
theorem dL_law_1322 : decode code 1322 = .ok (.iload_n 3, 1) := by decide +kernel
theorem dL_law_1323 : decode code 1323 = .ok (.iconst 1, 1) := by decide +kernel
theorem dL_law_1324 : decode code 1324 = .ok (.iadd, 1) := by decide +kernel
theorem dL_law_1325 : decode code 1325 = .ok (.iaload, 1) := by decide +kernel
theorem dL_law_1326 : decode code 1326 = .ok (.invokevirtual 187, 3) := by decide +kernel
theorem dL_law_1329 : decode code 1329 = .ok (.aload_n 2, 1) := by decide +kernel
theorem dL_law_1330 : decode code 1330 = .ok (.aload_n 0, 1) := by decide +kernel
theorem dL_law_1331 : decode code 1331 = .ok (.iload_n 3, 1) := by decide +kernel
theorem dL_law_1332 : decode code 1332 = .ok (.iconst 1, 1) := by decide +kernel
theorem dL_law_1333 : decode code 1333 = .ok (.iadd, 1) := by decide +kernel
theorem dL_law_1334 : decode code 1334 = .ok (.iaload, 1) := by decide +kernel
theorem dL_law_1335 : decode code 1335 = .ok (.invokevirtual 190, 3) := by decide +kernel
theorem dL_law_1338 : decode code 1338 = .ok (.if_icmp .eq 55, 3) := by decide +kernel
theorem dL_law_1341 : decode code 1341 = .ok (.iconst 0, 1) := by decide +kernel
theorem dL_law_1342 : decode code 1342 = .ok (.ireturn, 1) := by decide +kernel
theorem dL_law_1343 : decode code 1343 = .ok (.aload_n 1, 1) := by decide +kernel
theorem dL_law_1344 : decode code 1344 = .ok (.invokevirtual 191, 3) := by decide +kernel
theorem dL_law_1347 : decode code 1347 = .ok (.aload_n 2, 1) := by decide +kernel
theorem dL_law_1348 : decode code 1348 = .ok (.invokevirtual 194, 3) := by decide +kernel
theorem dL_law_1351 : decode code 1351 = .ok (.if_icmp .eq 42, 3) := by decide +kernel
theorem dL_law_1354 : decode code 1354 = .ok (.iconst 0, 1) := by decide +kernel
theorem dL_law_1355 : decode code 1355 = .ok (.ireturn, 1) := by decide +kernel
theorem dL_law_1356 : decode code 1356 = .ok (.aload_n 1, 1) := by decide +kernel
theorem dL_law_1357 : decode code 1357 = .ok (.aload_n 0, 1) := by decide +kernel
theorem dL_law_1358 : decode code 1358 = .ok (.iload_n 3, 1) := by decide +kernel
theorem dL_law_1359 : decode code 1359 = .ok (.iconst 1, 1) := by decide +kernel
theorem dL_law_1360 : decode code 1360 = .ok (.iadd, 1) := by decide +kernel
theorem dL_law_1361 : decode code 1361 = .ok (.iaload, 1) := by decide +kernel
theorem dL_law_1362 : decode code 1362 = .ok (.invokevirtual 195, 3) := by decide +kernel
theorem dL_law_1365 : decode code 1365 = .ok (.aload_n 2, 1) := by decide +kernel
theorem dL_law_1366 : decode code 1366 = .ok (.aload_n 0, 1) := by decide +kernel
theorem dL_law_1367 : decode code 1367 = .ok (.iload_n 3, 1) := by decide +kernel
theorem dL_law_1368 : decode code 1368 = .ok (.iconst 1, 1) := by decide +kernel
theorem dL_law_1369 : decode code 1369 = .ok (.iadd, 1) := by decide +kernel
theorem dL_law_1370 : decode code 1370 = .ok (.iaload, 1) := by decide +kernel
theorem dL_law_1371 : decode code 1371 = .ok (.invokevirtual 198, 3) := by decide +kernel
theorem dL_law_1374 : decode code 1374 = .ok (.if_icmp .eq 19, 3) := by decide +kernel
theorem dL_law_1377 : decode code 1377 = .ok (.iconst 0, 1) := by decide +kernel
theorem dL_law_1378 : decode code 1378 = .ok (.ireturn, 1) := by decide +kernel
theorem dL_law_1379 : decode code 1379 = .ok (.aload_n 1, 1) := by decide +kernel
theorem dL_law_1380 : decode code 1380 = .ok (.invokevirtual 199, 3) := by decide +kernel
theorem dL_law_1383 : decode code 1383 = .ok (.aload_n 2, 1) := by decide +kernel
theorem dL_law_1384 : decode code 1384 = .ok (.invokevirtual 202, 3) := by decide +kernel
theorem dL_law_1387 : decode code 1387 = .ok (.lcmp, 1) := by decide +kernel
theorem dL_law_1388 : decode code 1388 = .ok (.ifCond .eq 5, 3) := by decide +kernel
theorem dL_law_1391 : decode code 1391 = .ok (.iconst 0, 1) := by decide +kernel
theorem dL_law_1392 : decode code 1392 = .ok (.ireturn, 1) := by decide +kernel
theorem dL_law_1393 : decode code 1393 = .ok (.iinc 3 6, 3) := by decide +kernel
theorem dL_law_1396 : decode code 1396 = .ok (.goto (-1378), 3) := by decide +kernel
theorem dL_law_1399 : decode code 1399 = .ok (.iconst 1, 1) := by decide +kernel
theorem dL_law_1400 : decode code 1400 = .ok (.ireturn, 1) := by decide +kernel
theorem wm_L_13 : Cond.methodLink R_law 13 yX5_row ∈ sw_tbl := sw_mem (List.mem_append_right _ (List.mem_append_right _ (List.mem_append_left _ (List.mem_of_getElem? (i := 28) (by decide +kernel))))) rfl
theorem wm_L_17 : Cond.methodLink R_law 17 yX6_row ∈ sw_tbl := sw_mem (List.mem_append_right _ (List.mem_append_right _ (List.mem_append_right _ (List.mem_append_right _ (List.mem_append_left _ (List.mem_of_getElem? (i := 100) (by decide +kernel))))))) rfl
theorem wm_L_18 : Cond.methodLink R_law 18 yX5_lay ∈ sw_tbl := sw_mem (List.mem_append_right _ (List.mem_append_right _ (List.mem_append_left _ (List.mem_of_getElem? (i := 39) (by decide +kernel))))) rfl
theorem wm_L_22 : Cond.methodLink R_law 22 yX6_lay ∈ sw_tbl := sw_mem (List.mem_append_right _ (List.mem_append_right _ (List.mem_append_right _ (List.mem_append_right _ (List.mem_append_left _ (List.mem_of_getElem? (i := 119) (by decide +kernel))))))) rfl
theorem wm_L_23 : Cond.methodLink R_law 23 yX5_at ∈ sw_tbl := sw_mem (List.mem_append_right _ (List.mem_append_right _ (List.mem_append_left _ (List.mem_of_getElem? (i := 47) (by decide +kernel))))) rfl
theorem wm_L_26 : Cond.methodLink R_law 26 yX6_at ∈ sw_tbl := sw_mem (List.mem_append_right _ (List.mem_append_right _ (List.mem_append_right _ (List.mem_append_right _ (List.mem_append_left _ (List.mem_of_getElem? (i := 131) (by decide +kernel))))))) rfl
theorem wm_L_27 : Cond.methodLink R_law 27 yX5_tear ∈ sw_tbl := sw_mem (List.mem_append_right _ (List.mem_append_right _ (List.mem_append_left _ (List.mem_of_getElem? (i := 51) (by decide +kernel))))) rfl
theorem wm_L_31 : Cond.methodLink R_law 31 yX6_tear ∈ sw_tbl := sw_mem (List.mem_append_right _ (List.mem_append_right _ (List.mem_append_right _ (List.mem_append_right _ (List.mem_append_left _ (List.mem_of_getElem? (i := 135) (by decide +kernel))))))) rfl
theorem wm_L_32 : Cond.methodLink R_law 32 yX5_copy ∈ sw_tbl := sw_mem (List.mem_append_right _ (List.mem_append_right _ (List.mem_append_left _ (List.mem_of_getElem? (i := 55) (by decide +kernel))))) rfl
theorem wm_L_36 : Cond.methodLink R_law 36 yX6_copy ∈ sw_tbl := sw_mem (List.mem_append_right _ (List.mem_append_right _ (List.mem_append_right _ (List.mem_append_right _ (List.mem_append_left _ (List.mem_of_getElem? (i := 139) (by decide +kernel))))))) rfl
theorem wm_L_37 : Cond.methodLink R_law 37 yX5_mean ∈ sw_tbl := sw_mem (List.mem_append_right _ (List.mem_append_right _ (List.mem_append_left _ (List.mem_of_getElem? (i := 65) (by decide +kernel))))) rfl
theorem wm_L_40 : Cond.methodLink R_law 40 yX6_mean ∈ sw_tbl := sw_mem (List.mem_append_right _ (List.mem_append_right _ (List.mem_append_right _ (List.mem_append_right _ (List.mem_append_left _ (List.mem_of_getElem? (i := 147) (by decide +kernel))))))) rfl
theorem wm_L_41 : Cond.methodLink R_law 41 yX5_text ∈ sw_tbl := sw_mem (List.mem_append_right _ (List.mem_append_right _ (List.mem_append_left _ (List.mem_of_getElem? (i := 69) (by decide +kernel))))) rfl
theorem wm_L_44 : Cond.methodLink R_law 44 yX6_text ∈ sw_tbl := sw_mem (List.mem_append_right _ (List.mem_append_right _ (List.mem_append_right _ (List.mem_append_right _ (List.mem_append_left _ (List.mem_of_getElem? (i := 151) (by decide +kernel))))))) rfl
theorem wm_L_45 : Cond.methodLink R_law 45 yX5_put ∈ sw_tbl := sw_mem (List.mem_append_right _ (List.mem_append_right _ (List.mem_append_left _ (List.mem_of_getElem? (i := 79) (by decide +kernel))))) rfl
theorem wm_L_48 : Cond.methodLink R_law 48 yX6_put ∈ sw_tbl := sw_mem (List.mem_append_right _ (List.mem_append_right _ (List.mem_append_right _ (List.mem_append_right _ (List.mem_append_left _ (List.mem_of_getElem? (i := 159) (by decide +kernel))))))) rfl
theorem wm_L_49 : Cond.methodLink R_law 49 yX5_fault ∈ sw_tbl := sw_mem (List.mem_append_right _ (List.mem_append_right _ (List.mem_append_left _ (List.mem_of_getElem? (i := 83) (by decide +kernel))))) rfl
theorem wm_L_52 : Cond.methodLink R_law 52 yX6_fault ∈ sw_tbl := sw_mem (List.mem_append_right _ (List.mem_append_right _ (List.mem_append_right _ (List.mem_append_right _ (List.mem_append_left _ (List.mem_of_getElem? (i := 163) (by decide +kernel))))))) rfl
theorem wm_L_53 : Cond.methodLink R_law 53 yX5_town ∈ sw_tbl := sw_mem (List.mem_append_right _ (List.mem_append_right _ (List.mem_append_left _ (List.mem_of_getElem? (i := 114) (by decide +kernel))))) rfl
theorem wm_L_56 : Cond.methodLink R_law 56 yX6_town ∈ sw_tbl := sw_mem (List.mem_append_right _ (List.mem_append_right _ (List.mem_append_right _ (List.mem_append_right _ (List.mem_append_left _ (List.mem_of_getElem? (i := 194) (by decide +kernel))))))) rfl
theorem wm_L_57 : Cond.methodLink R_law 57 yX5_stranger ∈ sw_tbl := sw_mem (List.mem_append_right _ (List.mem_append_right _ (List.mem_append_left _ (List.mem_of_getElem? (i := 127) (by decide +kernel))))) rfl
theorem wm_L_60 : Cond.methodLink R_law 60 yX6_stranger ∈ sw_tbl := sw_mem (List.mem_append_right _ (List.mem_append_right _ (List.mem_append_right _ (List.mem_append_right _ (List.mem_append_left _ (List.mem_of_getElem? (i := 198) (by decide +kernel))))))) rfl
theorem wm_L_61 : Cond.methodLink R_law 61 yX5_mark ∈ sw_tbl := sw_mem (List.mem_append_right _ (List.mem_append_right _ (List.mem_append_left _ (List.mem_of_getElem? (i := 161) (by decide +kernel))))) rfl
theorem wm_L_64 : Cond.methodLink R_law 64 yX6_mark ∈ sw_tbl := sw_mem (List.mem_append_right _ (List.mem_append_right _ (List.mem_append_right _ (List.mem_append_right _ (List.mem_append_left _ (List.mem_of_getElem? (i := 224) (by decide +kernel))))))) rfl
theorem wm_L_65 : Cond.methodLink R_law 65 yX5_gate ∈ sw_tbl := sw_mem (List.mem_append_right _ (List.mem_append_right _ (List.mem_append_left _ (List.mem_of_getElem? (i := 173) (by decide +kernel))))) rfl
theorem wm_L_68 : Cond.methodLink R_law 68 yX6_gate ∈ sw_tbl := sw_mem (List.mem_append_right _ (List.mem_append_right _ (List.mem_append_right _ (List.mem_append_right _ (List.mem_append_left _ (List.mem_of_getElem? (i := 232) (by decide +kernel))))))) rfl
theorem wm_L_69 : Cond.methodLink R_law 69 yX5_let ∈ sw_tbl := sw_mem (List.mem_append_right _ (List.mem_append_right _ (List.mem_append_left _ (List.mem_of_getElem? (i := 177) (by decide +kernel))))) rfl
theorem wm_L_72 : Cond.methodLink R_law 72 yX6_let ∈ sw_tbl := sw_mem (List.mem_append_right _ (List.mem_append_right _ (List.mem_append_right _ (List.mem_append_right _ (List.mem_append_left _ (List.mem_of_getElem? (i := 236) (by decide +kernel))))))) rfl
theorem wm_L_73 : Cond.methodLink R_law 73 yX5_leave ∈ sw_tbl := sw_mem (List.mem_append_right _ (List.mem_append_right _ (List.mem_append_left _ (List.mem_of_getElem? (i := 210) (by decide +kernel))))) rfl
theorem wm_L_76 : Cond.methodLink R_law 76 yX6_leave ∈ sw_tbl := sw_mem (List.mem_append_right _ (List.mem_append_right _ (List.mem_append_right _ (List.mem_append_right _ (List.mem_append_right _ (List.mem_append_left _ (List.mem_of_getElem? (i := 16) (by decide +kernel)))))))) rfl
theorem wm_L_77 : Cond.methodLink R_law 77 yX5_hour ∈ sw_tbl := sw_mem (List.mem_append_right _ (List.mem_append_right _ (List.mem_append_left _ (List.mem_of_getElem? (i := 215) (by decide +kernel))))) rfl
theorem wm_L_81 : Cond.methodLink R_law 81 yX6_hour ∈ sw_tbl := sw_mem (List.mem_append_right _ (List.mem_append_right _ (List.mem_append_right _ (List.mem_append_right _ (List.mem_append_right _ (List.mem_append_left _ (List.mem_of_getElem? (i := 24) (by decide +kernel)))))))) rfl
theorem wm_L_82 : Cond.methodLink R_law 82 yX5_frost ∈ sw_tbl := sw_mem (List.mem_append_right _ (List.mem_append_right _ (List.mem_append_left _ (List.mem_of_getElem? (i := 223) (by decide +kernel))))) rfl
theorem wm_L_85 : Cond.methodLink R_law 85 yX6_frost ∈ sw_tbl := sw_mem (List.mem_append_right _ (List.mem_append_right _ (List.mem_append_right _ (List.mem_append_right _ (List.mem_append_right _ (List.mem_append_left _ (List.mem_of_getElem? (i := 32) (by decide +kernel)))))))) rfl
theorem wm_L_86 : Cond.methodLink R_law 86 yX5_undo ∈ sw_tbl := sw_mem (List.mem_append_right _ (List.mem_append_right _ (List.mem_append_left _ (List.mem_of_getElem? (i := 227) (by decide +kernel))))) rfl
theorem wm_L_89 : Cond.methodLink R_law 89 yX6_undo ∈ sw_tbl := sw_mem (List.mem_append_right _ (List.mem_append_right _ (List.mem_append_right _ (List.mem_append_right _ (List.mem_append_right _ (List.mem_append_left _ (List.mem_of_getElem? (i := 36) (by decide +kernel)))))))) rfl
theorem wm_L_90 : Cond.methodLink R_law 90 yX5_keep ∈ sw_tbl := sw_mem (List.mem_append_right _ (List.mem_append_right _ (List.mem_append_left _ (List.mem_of_getElem? (i := 236) (by decide +kernel))))) rfl
theorem wm_L_93 : Cond.methodLink R_law 93 yX6_keep ∈ sw_tbl := sw_mem (List.mem_append_right _ (List.mem_append_right _ (List.mem_append_right _ (List.mem_append_right _ (List.mem_append_right _ (List.mem_append_left _ (List.mem_of_getElem? (i := 40) (by decide +kernel)))))))) rfl
theorem wm_L_94 : Cond.methodLink R_law 94 yX5_on ∈ sw_tbl := sw_mem (List.mem_append_right _ (List.mem_append_right _ (List.mem_append_right _ (List.mem_append_left _ (List.mem_of_getElem? (i := 3) (by decide +kernel)))))) rfl
theorem wm_L_97 : Cond.methodLink R_law 97 yX6_on ∈ sw_tbl := sw_mem (List.mem_append_right _ (List.mem_append_right _ (List.mem_append_right _ (List.mem_append_right _ (List.mem_append_right _ (List.mem_append_left _ (List.mem_of_getElem? (i := 49) (by decide +kernel)))))))) rfl
theorem wm_L_98 : Cond.methodLink R_law 98 yX5_lasts ∈ sw_tbl := sw_mem (List.mem_append_right _ (List.mem_append_right _ (List.mem_append_right _ (List.mem_append_left _ (List.mem_of_getElem? (i := 7) (by decide +kernel)))))) rfl
theorem wm_L_101 : Cond.methodLink R_law 101 yX6_lasts ∈ sw_tbl := sw_mem (List.mem_append_right _ (List.mem_append_right _ (List.mem_append_right _ (List.mem_append_right _ (List.mem_append_right _ (List.mem_append_left _ (List.mem_of_getElem? (i := 53) (by decide +kernel)))))))) rfl
theorem wm_L_102 : Cond.methodLink R_law 102 yX5_wound ∈ sw_tbl := sw_mem (List.mem_append_right _ (List.mem_append_right _ (List.mem_append_right _ (List.mem_append_left _ (List.mem_of_getElem? (i := 15) (by decide +kernel)))))) rfl
theorem wm_L_105 : Cond.methodLink R_law 105 yX6_wound ∈ sw_tbl := sw_mem (List.mem_append_right _ (List.mem_append_right _ (List.mem_append_right _ (List.mem_append_right _ (List.mem_append_right _ (List.mem_append_left _ (List.mem_of_getElem? (i := 65) (by decide +kernel)))))))) rfl
theorem wm_L_106 : Cond.methodLink R_law 106 yX5_most ∈ sw_tbl := sw_mem (List.mem_append_right _ (List.mem_append_right _ (List.mem_append_right _ (List.mem_append_left _ (List.mem_of_getElem? (i := 28) (by decide +kernel)))))) rfl
theorem wm_L_109 : Cond.methodLink R_law 109 yX6_most ∈ sw_tbl := sw_mem (List.mem_append_right _ (List.mem_append_right _ (List.mem_append_right _ (List.mem_append_right _ (List.mem_append_right _ (List.mem_append_left _ (List.mem_of_getElem? (i := 73) (by decide +kernel)))))))) rfl
theorem wm_L_110 : Cond.methodLink R_law 110 yX5_order ∈ sw_tbl := sw_mem (List.mem_append_right _ (List.mem_append_right _ (List.mem_append_right _ (List.mem_append_left _ (List.mem_of_getElem? (i := 40) (by decide +kernel)))))) rfl
theorem wm_L_113 : Cond.methodLink R_law 113 yX6_order ∈ sw_tbl := sw_mem (List.mem_append_right _ (List.mem_append_right _ (List.mem_append_right _ (List.mem_append_right _ (List.mem_append_right _ (List.mem_append_left _ (List.mem_of_getElem? (i := 93) (by decide +kernel)))))))) rfl
theorem wm_L_114 : Cond.methodLink R_law 114 yX5_ways ∈ sw_tbl := sw_mem (List.mem_append_right _ (List.mem_append_right _ (List.mem_append_right _ (List.mem_append_left _ (List.mem_of_getElem? (i := 63) (by decide +kernel)))))) rfl
theorem wm_L_117 : Cond.methodLink R_law 117 yX6_ways ∈ sw_tbl := sw_mem (List.mem_append_right _ (List.mem_append_right _ (List.mem_append_right _ (List.mem_append_right _ (List.mem_append_right _ (List.mem_append_left _ (List.mem_of_getElem? (i := 101) (by decide +kernel)))))))) rfl
theorem wm_L_118 : Cond.methodLink R_law 118 yX5_bread ∈ sw_tbl := sw_mem (List.mem_append_right _ (List.mem_append_right _ (List.mem_append_right _ (List.mem_append_left _ (List.mem_of_getElem? (i := 96) (by decide +kernel)))))) rfl
theorem wm_L_121 : Cond.methodLink R_law 121 yX6_bread ∈ sw_tbl := sw_mem (List.mem_append_right _ (List.mem_append_right _ (List.mem_append_right _ (List.mem_append_right _ (List.mem_append_right _ (List.mem_append_left _ (List.mem_of_getElem? (i := 122) (by decide +kernel)))))))) rfl
theorem wm_L_122 : Cond.methodLink R_law 122 yX5_goes ∈ sw_tbl := sw_mem (List.mem_append_right _ (List.mem_append_right _ (List.mem_append_right _ (List.mem_append_left _ (List.mem_of_getElem? (i := 100) (by decide +kernel)))))) rfl
theorem wm_L_125 : Cond.methodLink R_law 125 yX6_goes ∈ sw_tbl := sw_mem (List.mem_append_right _ (List.mem_append_right _ (List.mem_append_right _ (List.mem_append_right _ (List.mem_append_right _ (List.mem_append_left _ (List.mem_of_getElem? (i := 126) (by decide +kernel)))))))) rfl
theorem wm_L_126 : Cond.methodLink R_law 126 yX5_behind ∈ sw_tbl := sw_mem (List.mem_append_right _ (List.mem_append_right _ (List.mem_append_right _ (List.mem_append_left _ (List.mem_of_getElem? (i := 104) (by decide +kernel)))))) rfl
theorem wm_L_129 : Cond.methodLink R_law 129 yX6_behind ∈ sw_tbl := sw_mem (List.mem_append_right _ (List.mem_append_right _ (List.mem_append_right _ (List.mem_append_right _ (List.mem_append_right _ (List.mem_append_left _ (List.mem_of_getElem? (i := 130) (by decide +kernel)))))))) rfl
theorem wm_L_130 : Cond.methodLink R_law 130 yX5_fits ∈ sw_tbl := sw_mem (List.mem_append_right _ (List.mem_append_right _ (List.mem_append_right _ (List.mem_append_left _ (List.mem_of_getElem? (i := 110) (by decide +kernel)))))) rfl
theorem wm_L_133 : Cond.methodLink R_law 133 yX6_fits ∈ sw_tbl := sw_mem (List.mem_append_right _ (List.mem_append_right _ (List.mem_append_right _ (List.mem_append_right _ (List.mem_append_right _ (List.mem_append_left _ (List.mem_of_getElem? (i := 134) (by decide +kernel)))))))) rfl
theorem wm_L_134 : Cond.methodLink R_law 134 yX5_sure ∈ sw_tbl := sw_mem (List.mem_append_right _ (List.mem_append_right _ (List.mem_append_right _ (List.mem_append_left _ (List.mem_of_getElem? (i := 133) (by decide +kernel)))))) rfl
theorem wm_L_137 : Cond.methodLink R_law 137 yX6_sure ∈ sw_tbl := sw_mem (List.mem_append_right _ (List.mem_append_right _ (List.mem_append_right _ (List.mem_append_right _ (List.mem_append_right _ (List.mem_append_left _ (List.mem_of_getElem? (i := 143) (by decide +kernel)))))))) rfl
theorem wm_L_138 : Cond.methodLink R_law 138 yX5_ask ∈ sw_tbl := sw_mem (List.mem_append_right _ (List.mem_append_right _ (List.mem_append_right _ (List.mem_append_left _ (List.mem_of_getElem? (i := 142) (by decide +kernel)))))) rfl
theorem wm_L_141 : Cond.methodLink R_law 141 yX6_ask ∈ sw_tbl := sw_mem (List.mem_append_right _ (List.mem_append_right _ (List.mem_append_right _ (List.mem_append_right _ (List.mem_append_right _ (List.mem_append_left _ (List.mem_of_getElem? (i := 151) (by decide +kernel)))))))) rfl
theorem wm_L_142 : Cond.methodLink R_law 142 yX5_came ∈ sw_tbl := sw_mem (List.mem_append_right _ (List.mem_append_right _ (List.mem_append_right _ (List.mem_append_left _ (List.mem_of_getElem? (i := 147) (by decide +kernel)))))) rfl
theorem wm_L_145 : Cond.methodLink R_law 145 yX6_came ∈ sw_tbl := sw_mem (List.mem_append_right _ (List.mem_append_right _ (List.mem_append_right _ (List.mem_append_right _ (List.mem_append_right _ (List.mem_append_left _ (List.mem_of_getElem? (i := 159) (by decide +kernel)))))))) rfl
theorem wm_L_146 : Cond.methodLink R_law 146 yX5_duel ∈ sw_tbl := sw_mem (List.mem_append_right _ (List.mem_append_right _ (List.mem_append_right _ (List.mem_append_left _ (List.mem_of_getElem? (i := 151) (by decide +kernel)))))) rfl
theorem wm_L_149 : Cond.methodLink R_law 149 yX6_duel ∈ sw_tbl := sw_mem (List.mem_append_right _ (List.mem_append_right _ (List.mem_append_right _ (List.mem_append_right _ (List.mem_append_right _ (List.mem_append_left _ (List.mem_of_getElem? (i := 163) (by decide +kernel)))))))) rfl
theorem wm_L_150 : Cond.methodLink R_law 150 yX5_shut ∈ sw_tbl := sw_mem (List.mem_append_right _ (List.mem_append_right _ (List.mem_append_right _ (List.mem_append_left _ (List.mem_of_getElem? (i := 159) (by decide +kernel)))))) rfl
theorem wm_L_153 : Cond.methodLink R_law 153 yX6_shut ∈ sw_tbl := sw_mem (List.mem_append_right _ (List.mem_append_right _ (List.mem_append_right _ (List.mem_append_right _ (List.mem_append_right _ (List.mem_append_left _ (List.mem_of_getElem? (i := 172) (by decide +kernel)))))))) rfl
theorem wm_L_154 : Cond.methodLink R_law 154 yX5_meets ∈ sw_tbl := sw_mem (List.mem_append_right _ (List.mem_append_right _ (List.mem_append_right _ (List.mem_append_left _ (List.mem_of_getElem? (i := 163) (by decide +kernel)))))) rfl
theorem wm_L_157 : Cond.methodLink R_law 157 yX6_meets ∈ sw_tbl := sw_mem (List.mem_append_right _ (List.mem_append_right _ (List.mem_append_right _ (List.mem_append_right _ (List.mem_append_right _ (List.mem_append_left _ (List.mem_of_getElem? (i := 176) (by decide +kernel)))))))) rfl
theorem wm_L_158 : Cond.methodLink R_law 158 yX5_check ∈ sw_tbl := sw_mem (List.mem_append_right _ (List.mem_append_right _ (List.mem_append_right _ (List.mem_append_left _ (List.mem_of_getElem? (i := 167) (by decide +kernel)))))) rfl
theorem wm_L_161 : Cond.methodLink R_law 161 yX6_check ∈ sw_tbl := sw_mem (List.mem_append_right _ (List.mem_append_right _ (List.mem_append_right _ (List.mem_append_right _ (List.mem_append_right _ (List.mem_append_left _ (List.mem_of_getElem? (i := 180) (by decide +kernel)))))))) rfl
theorem wm_L_162 : Cond.methodLink R_law 162 yX5_odds ∈ sw_tbl := sw_mem (List.mem_append_right _ (List.mem_append_right _ (List.mem_append_right _ (List.mem_append_left _ (List.mem_of_getElem? (i := 175) (by decide +kernel)))))) rfl
theorem wm_L_165 : Cond.methodLink R_law 165 yX6_odds ∈ sw_tbl := sw_mem (List.mem_append_right _ (List.mem_append_right _ (List.mem_append_right _ (List.mem_append_right _ (List.mem_append_right _ (List.mem_append_left _ (List.mem_of_getElem? (i := 184) (by decide +kernel)))))))) rfl
theorem wm_L_166 : Cond.methodLink R_law 166 yX5_mid ∈ sw_tbl := sw_mem (List.mem_append_right _ (List.mem_append_right _ (List.mem_append_right _ (List.mem_append_left _ (List.mem_of_getElem? (i := 191) (by decide +kernel)))))) rfl
theorem wm_L_169 : Cond.methodLink R_law 169 yX6_mid ∈ sw_tbl := sw_mem (List.mem_append_right _ (List.mem_append_right _ (List.mem_append_right _ (List.mem_append_right _ (List.mem_append_right _ (List.mem_append_left _ (List.mem_of_getElem? (i := 197) (by decide +kernel)))))))) rfl
theorem wm_L_170 : Cond.methodLink R_law 170 yX5_lots ∈ sw_tbl := sw_mem (List.mem_append_right _ (List.mem_append_right _ (List.mem_append_right _ (List.mem_append_left _ (List.mem_of_getElem? (i := 195) (by decide +kernel)))))) rfl
theorem wm_L_173 : Cond.methodLink R_law 173 yX6_lots ∈ sw_tbl := sw_mem (List.mem_append_right _ (List.mem_append_right _ (List.mem_append_right _ (List.mem_append_right _ (List.mem_append_right _ (List.mem_append_left _ (List.mem_of_getElem? (i := 201) (by decide +kernel)))))))) rfl
theorem wm_L_174 : Cond.methodLink R_law 174 yX5_asked ∈ sw_tbl := sw_mem (List.mem_append_right _ (List.mem_append_right _ (List.mem_append_right _ (List.mem_append_left _ (List.mem_of_getElem? (i := 207) (by decide +kernel)))))) rfl
theorem wm_L_177 : Cond.methodLink R_law 177 yX6_asked ∈ sw_tbl := sw_mem (List.mem_append_right _ (List.mem_append_right _ (List.mem_append_right _ (List.mem_append_right _ (List.mem_append_right _ (List.mem_append_left _ (List.mem_of_getElem? (i := 210) (by decide +kernel)))))))) rfl
theorem wm_L_178 : Cond.methodLink R_law 178 yX5_upper ∈ sw_tbl := sw_mem (List.mem_append_right _ (List.mem_append_right _ (List.mem_append_right _ (List.mem_append_left _ (List.mem_of_getElem? (i := 211) (by decide +kernel)))))) rfl
theorem wm_L_182 : Cond.methodLink R_law 182 yX6_upper ∈ sw_tbl := sw_mem (List.mem_append_right _ (List.mem_append_right _ (List.mem_append_right _ (List.mem_append_right _ (List.mem_append_right _ (List.mem_append_left _ (List.mem_of_getElem? (i := 214) (by decide +kernel)))))))) rfl
theorem wm_L_183 : Cond.methodLink R_law 183 yX5_lower ∈ sw_tbl := sw_mem (List.mem_append_right _ (List.mem_append_right _ (List.mem_append_right _ (List.mem_append_left _ (List.mem_of_getElem? (i := 215) (by decide +kernel)))))) rfl
theorem wm_L_186 : Cond.methodLink R_law 186 yX6_lower ∈ sw_tbl := sw_mem (List.mem_append_right _ (List.mem_append_right _ (List.mem_append_right _ (List.mem_append_right _ (List.mem_append_right _ (List.mem_append_left _ (List.mem_of_getElem? (i := 218) (by decide +kernel)))))))) rfl
theorem wm_L_187 : Cond.methodLink R_law 187 yX5_count ∈ sw_tbl := sw_mem (List.mem_append_right _ (List.mem_append_right _ (List.mem_append_right _ (List.mem_append_left _ (List.mem_of_getElem? (i := 219) (by decide +kernel)))))) rfl
theorem wm_L_190 : Cond.methodLink R_law 190 yX6_count ∈ sw_tbl := sw_mem (List.mem_append_right _ (List.mem_append_right _ (List.mem_append_right _ (List.mem_append_right _ (List.mem_append_right _ (List.mem_append_left _ (List.mem_of_getElem? (i := 222) (by decide +kernel)))))))) rfl
theorem wm_L_191 : Cond.methodLink R_law 191 yX5_finding ∈ sw_tbl := sw_mem (List.mem_append_right _ (List.mem_append_right _ (List.mem_append_right _ (List.mem_append_left _ (List.mem_of_getElem? (i := 231) (by decide +kernel)))))) rfl
theorem wm_L_194 : Cond.methodLink R_law 194 yX6_finding ∈ sw_tbl := sw_mem (List.mem_append_right _ (List.mem_append_right _ (List.mem_append_right _ (List.mem_append_right _ (List.mem_append_right _ (List.mem_append_left _ (List.mem_of_getElem? (i := 238) (by decide +kernel)))))))) rfl
theorem wm_L_195 : Cond.methodLink R_law 195 yX5_findings ∈ sw_tbl := sw_mem (List.mem_append_right _ (List.mem_append_right _ (List.mem_append_right _ (List.mem_append_left _ (List.mem_of_getElem? (i := 235) (by decide +kernel)))))) rfl
theorem wm_L_198 : Cond.methodLink R_law 198 yX6_findings ∈ sw_tbl := sw_mem (List.mem_append_right _ (List.mem_append_right _ (List.mem_append_right _ (List.mem_append_right _ (List.mem_append_right _ (List.mem_append_right _ (List.mem_of_getElem? (i := 2) (by decide +kernel)))))))) rfl
theorem wm_L_199 : Cond.methodLink R_law 199 yX5_digest ∈ sw_tbl := sw_mem (List.mem_append_right _ (List.mem_append_right _ (List.mem_append_right _ (List.mem_append_left _ (List.mem_of_getElem? (i := 239) (by decide +kernel)))))) rfl
theorem wm_L_202 : Cond.methodLink R_law 202 yX6_digest ∈ sw_tbl := sw_mem (List.mem_append_right _ (List.mem_append_right _ (List.mem_append_right _ (List.mem_append_right _ (List.mem_append_right _ (List.mem_append_right _ (List.mem_of_getElem? (i := 6) (by decide +kernel)))))))) rfl
/-- row: both answer alike, and what stands between them goes on standing -/
def sm_0 (P : sw_St → Prop) (F : Nat) : Prop := ∀ (a1 a2 : Int32) (st : sw_St), P st → ∃ (r : Int32) (st1 : sw_St) (st2 : sw_St), j_X5_row F a1 a2 st = some (r, st1) ∧ j_X6_row F a1 a2 st1 = some (r, st2) ∧ P st2
/-- lay: both answer alike, and what stands between them goes on standing -/
def sm_1 (P : sw_St → Prop) (F : Nat) : Prop := ∀ (a1 a2 a3 : Int32) (st : sw_St), P st → ∃ (r : Int32) (st1 : sw_St) (st2 : sw_St), j_X5_lay F a1 a2 a3 st = some (r, st1) ∧ j_X6_lay F a1 a2 a3 st1 = some (r, st2) ∧ P st2
/-- at: both answer alike, and what stands between them goes on standing -/
def sm_2 (P : sw_St → Prop) (F : Nat) : Prop := ∀ (a1 a2 : Int32) (st : sw_St), P st → ∃ (r : Int32) (st1 : sw_St) (st2 : sw_St), j_X5_at F a1 a2 st = some (r, st1) ∧ j_X6_at F a1 a2 st1 = some (r, st2) ∧ P st2
/-- tear: both answer alike, and what stands between them goes on standing -/
def sm_3 (P : sw_St → Prop) (F : Nat) : Prop := ∀ (a1 : Int32) (st : sw_St), P st → ∃ (r : Int32) (st1 : sw_St) (st2 : sw_St), j_X5_tear F a1 st = some (r, st1) ∧ j_X6_tear F a1 st1 = some (r, st2) ∧ P st2
/-- copy: both answer alike, and what stands between them goes on standing -/
def sm_4 (P : sw_St → Prop) (F : Nat) : Prop := ∀ (a1 a2 a3 a4 a5 : Int32) (st : sw_St), P st → ∃ (r : Int32) (st1 : sw_St) (st2 : sw_St), j_X5_copy F a1 a2 a3 a4 a5 st = some (r, st1) ∧ j_X6_copy F a1 a2 a3 a4 a5 st1 = some (r, st2) ∧ P st2
/-- mean: both answer alike, and what stands between them goes on standing -/
def sm_5 (P : sw_St → Prop) (F : Nat) : Prop := ∀ (a1 : Int32) (st : sw_St), P st → ∃ (r : Int32) (st1 : sw_St) (st2 : sw_St), j_X5_mean F a1 st = some (r, st1) ∧ j_X6_mean F a1 st1 = some (r, st2) ∧ P st2
/-- text: both answer alike, and what stands between them goes on standing -/
def sm_6 (P : sw_St → Prop) (F : Nat) : Prop := ∀ (a1 a2 : Int32) (st : sw_St), P st → ∃ (r : Int32) (st1 : sw_St) (st2 : sw_St), j_X5_text F a1 a2 st = some (r, st1) ∧ j_X6_text F a1 a2 st1 = some (r, st2) ∧ P st2
/-- put: both answer alike, and what stands between them goes on standing -/
def sm_7 (P : sw_St → Prop) (F : Nat) : Prop := ∀ (a1 a2 a3 : Int32) (st : sw_St), P st → ∃ (r : Int32) (st1 : sw_St) (st2 : sw_St), j_X5_put F a1 a2 a3 st = some (r, st1) ∧ j_X6_put F a1 a2 a3 st1 = some (r, st2) ∧ P st2
/-- fault: both answer alike, and what stands between them goes on standing -/
def sm_8 (P : sw_St → Prop) (F : Nat) : Prop := ∀ (a1 : Int32) (st : sw_St), P st → ∃ (r : Int32) (st1 : sw_St) (st2 : sw_St), j_X5_fault F a1 st = some (r, st1) ∧ j_X6_fault F a1 st1 = some (r, st2) ∧ P st2
/-- town: both answer alike, and what stands between them goes on standing -/
def sm_9 (P : sw_St → Prop) (F : Nat) : Prop := ∀ (a1 : Int32) (st : sw_St), P st → ∃ (r : Int32) (st1 : sw_St) (st2 : sw_St), j_X5_town F a1 st = some (r, st1) ∧ j_X6_town F a1 st1 = some (r, st2) ∧ P st2
/-- stranger: both answer alike, and what stands between them goes on standing -/
def sm_10 (P : sw_St → Prop) (F : Nat) : Prop := ∀ (a1 a2 : Int32) (st : sw_St), P st → ∃ (r : Int32) (st1 : sw_St) (st2 : sw_St), j_X5_stranger F a1 a2 st = some (r, st1) ∧ j_X6_stranger F a1 a2 st1 = some (r, st2) ∧ P st2
/-- mark: both answer alike, and what stands between them goes on standing -/
def sm_11 (P : sw_St → Prop) (F : Nat) : Prop := ∀ (a1 a2 : Int32) (st : sw_St), P st → ∃ (r : Int32) (st1 : sw_St) (st2 : sw_St), j_X5_mark F a1 a2 st = some (r, st1) ∧ j_X6_mark F a1 a2 st1 = some (r, st2) ∧ P st2
/-- gate: both answer alike, and what stands between them goes on standing -/
def sm_12 (P : sw_St → Prop) (F : Nat) : Prop := ∀ (a1 : Int32) (st : sw_St), P st → ∃ (r : Int32) (st1 : sw_St) (st2 : sw_St), j_X5_gate F a1 st = some (r, st1) ∧ j_X6_gate F a1 st1 = some (r, st2) ∧ P st2
/-- let: both answer alike, and what stands between them goes on standing -/
def sm_13 (P : sw_St → Prop) (F : Nat) : Prop := ∀ (a1 : Int32) (st : sw_St), P st → ∃ (r : Int32) (st1 : sw_St) (st2 : sw_St), j_X5_let F a1 st = some (r, st1) ∧ j_X6_let F a1 st1 = some (r, st2) ∧ P st2
/-- leave: both answer alike, and what stands between them goes on standing -/
def sm_14 (P : sw_St → Prop) (F : Nat) : Prop := ∀ (a1 : Int32) (st : sw_St), P st → ∃ (r : Int32) (st1 : sw_St) (st2 : sw_St), j_X5_leave F a1 st = some (r, st1) ∧ j_X6_leave F a1 st1 = some (r, st2) ∧ P st2
/-- hour: both answer alike, and what stands between them goes on standing -/
def sm_15 (P : sw_St → Prop) (F : Nat) : Prop := ∀ (st : sw_St), P st → ∃ (r : Int32) (st1 : sw_St) (st2 : sw_St), j_X5_hour F st = some (r, st1) ∧ j_X6_hour F st1 = some (r, st2) ∧ P st2
/-- frost: both answer alike, and what stands between them goes on standing -/
def sm_16 (P : sw_St → Prop) (F : Nat) : Prop := ∀ (a1 : Int32) (st : sw_St), P st → ∃ (r : Int32) (st1 : sw_St) (st2 : sw_St), j_X5_frost F a1 st = some (r, st1) ∧ j_X6_frost F a1 st1 = some (r, st2) ∧ P st2
/-- undo: both answer alike, and what stands between them goes on standing -/
def sm_17 (P : sw_St → Prop) (F : Nat) : Prop := ∀ (a1 : Int32) (st : sw_St), P st → ∃ (r : Int32) (st1 : sw_St) (st2 : sw_St), j_X5_undo F a1 st = some (r, st1) ∧ j_X6_undo F a1 st1 = some (r, st2) ∧ P st2
/-- keep: both answer alike, and what stands between them goes on standing -/
def sm_18 (P : sw_St → Prop) (F : Nat) : Prop := ∀ (a1 : Int32) (st : sw_St), P st → ∃ (r : Int32) (st1 : sw_St) (st2 : sw_St), j_X5_keep F a1 st = some (r, st1) ∧ j_X6_keep F a1 st1 = some (r, st2) ∧ P st2
/-- on: both answer alike, and what stands between them goes on standing -/
def sm_19 (P : sw_St → Prop) (F : Nat) : Prop := ∀ (a1 : Int32) (st : sw_St), P st → ∃ (r : Int32) (st1 : sw_St) (st2 : sw_St), j_X5_on F a1 st = some (r, st1) ∧ j_X6_on F a1 st1 = some (r, st2) ∧ P st2
/-- lasts: both answer alike, and what stands between them goes on standing -/
def sm_20 (P : sw_St → Prop) (F : Nat) : Prop := ∀ (st : sw_St), P st → ∃ (r : Int32) (st1 : sw_St) (st2 : sw_St), j_X5_lasts F st = some (r, st1) ∧ j_X6_lasts F st1 = some (r, st2) ∧ P st2
/-- wound: both answer alike, and what stands between them goes on standing -/
def sm_21 (P : sw_St → Prop) (F : Nat) : Prop := ∀ (a1 : Int32) (st : sw_St), P st → ∃ (r : Int32) (st1 : sw_St) (st2 : sw_St), j_X5_wound F a1 st = some (r, st1) ∧ j_X6_wound F a1 st1 = some (r, st2) ∧ P st2
/-- most: both answer alike, and what stands between them goes on standing -/
def sm_22 (P : sw_St → Prop) (F : Nat) : Prop := ∀ (st : sw_St), P st → ∃ (r : Int32) (st1 : sw_St) (st2 : sw_St), j_X5_most F st = some (r, st1) ∧ j_X6_most F st1 = some (r, st2) ∧ P st2
/-- order: both answer alike, and what stands between them goes on standing -/
def sm_23 (P : sw_St → Prop) (F : Nat) : Prop := ∀ (a1 : Int32) (st : sw_St), P st → ∃ (r : Int32) (st1 : sw_St) (st2 : sw_St), j_X5_order F a1 st = some (r, st1) ∧ j_X6_order F a1 st1 = some (r, st2) ∧ P st2
/-- ways: both answer alike, and what stands between them goes on standing -/
def sm_24 (P : sw_St → Prop) (F : Nat) : Prop := ∀ (a1 a2 : Int32) (st : sw_St), P st → ∃ (r : Int32) (st1 : sw_St) (st2 : sw_St), j_X5_ways F a1 a2 st = some (r, st1) ∧ j_X6_ways F a1 a2 st1 = some (r, st2) ∧ P st2
/-- bread: both answer alike, and what stands between them goes on standing -/
def sm_25 (P : sw_St → Prop) (F : Nat) : Prop := ∀ (a1 a2 a3 : Int32) (st : sw_St), P st → ∃ (r : Int32) (st1 : sw_St) (st2 : sw_St), j_X5_bread F a1 a2 a3 st = some (r, st1) ∧ j_X6_bread F a1 a2 a3 st1 = some (r, st2) ∧ P st2
/-- goes: both answer alike, and what stands between them goes on standing -/
def sm_26 (P : sw_St → Prop) (F : Nat) : Prop := ∀ (a1 : Int32) (st : sw_St), P st → ∃ (r : Int32) (st1 : sw_St) (st2 : sw_St), j_X5_goes F a1 st = some (r, st1) ∧ j_X6_goes F a1 st1 = some (r, st2) ∧ P st2
/-- behind: both answer alike, and what stands between them goes on standing -/
def sm_27 (P : sw_St → Prop) (F : Nat) : Prop := ∀ (a1 : Int32) (st : sw_St), P st → ∃ (r : Int32) (st1 : sw_St) (st2 : sw_St), j_X5_behind F a1 st = some (r, st1) ∧ j_X6_behind F a1 st1 = some (r, st2) ∧ P st2
/-- fits: both answer alike, and what stands between them goes on standing -/
def sm_28 (P : sw_St → Prop) (F : Nat) : Prop := ∀ (a1 : Int32) (st : sw_St), P st → ∃ (r : Int32) (st1 : sw_St) (st2 : sw_St), j_X5_fits F a1 st = some (r, st1) ∧ j_X6_fits F a1 st1 = some (r, st2) ∧ P st2
/-- sure: both answer alike, and what stands between them goes on standing -/
def sm_29 (P : sw_St → Prop) (F : Nat) : Prop := ∀ (a1 : Int32) (st : sw_St), P st → ∃ (r : Int32) (st1 : sw_St) (st2 : sw_St), j_X5_sure F a1 st = some (r, st1) ∧ j_X6_sure F a1 st1 = some (r, st2) ∧ P st2
/-- ask: both answer alike, and what stands between them goes on standing -/
def sm_30 (P : sw_St → Prop) (F : Nat) : Prop := ∀ (a1 : Int32) (st : sw_St), P st → ∃ (r : Int32) (st1 : sw_St) (st2 : sw_St), j_X5_ask F a1 st = some (r, st1) ∧ j_X6_ask F a1 st1 = some (r, st2) ∧ P st2
/-- came: both answer alike, and what stands between them goes on standing -/
def sm_31 (P : sw_St → Prop) (F : Nat) : Prop := ∀ (a1 : Int32) (st : sw_St), P st → ∃ (r : Int32) (st1 : sw_St) (st2 : sw_St), j_X5_came F a1 st = some (r, st1) ∧ j_X6_came F a1 st1 = some (r, st2) ∧ P st2
/-- duel: both answer alike, and what stands between them goes on standing -/
def sm_32 (P : sw_St → Prop) (F : Nat) : Prop := ∀ (a1 : Int32) (st : sw_St), P st → ∃ (r : Int32) (st2 : sw_St), j_X5_duel F a1 st = some r ∧ j_X6_duel F a1 st = some (r, st2) ∧ P st2
/-- shut: both answer alike, and what stands between them goes on standing -/
def sm_33 (P : sw_St → Prop) (F : Nat) : Prop := ∀ (a1 : Int32) (st : sw_St), P st → ∃ (r : Int32) (st2 : sw_St), j_X5_shut F a1 st = some r ∧ j_X6_shut F a1 st = some (r, st2) ∧ P st2
/-- meets: both answer alike, and what stands between them goes on standing -/
def sm_34 (P : sw_St → Prop) (F : Nat) : Prop := ∀ (a1 : Int32) (st : sw_St), P st → ∃ (r : Int32) (st1 : sw_St) (st2 : sw_St), j_X5_meets F a1 st = some (r, st1) ∧ j_X6_meets F a1 st1 = some (r, st2) ∧ P st2
/-- check: both answer alike, and what stands between them goes on standing -/
def sm_35 (P : sw_St → Prop) (F : Nat) : Prop := ∀ (a1 : Int32) (st : sw_St), P st → ∃ (r : Int32) (st1 : sw_St) (st2 : sw_St), j_X5_check F a1 st = some (r, st1) ∧ j_X6_check F a1 st1 = some (r, st2) ∧ P st2
/-- odds: both answer alike, and what stands between them goes on standing -/
def sm_36 (P : sw_St → Prop) (F : Nat) : Prop := ∀ (a1 a2 : Int32) (st : sw_St), P st → ∃ (r : Int32) (st1 : sw_St) (st2 : sw_St), j_X5_odds F a1 a2 st = some (r, st1) ∧ j_X6_odds F a1 a2 st1 = some (r, st2) ∧ P st2
/-- mid: both answer alike, and what stands between them goes on standing -/
def sm_37 (P : sw_St → Prop) (F : Nat) : Prop := ∀ (a1 : Int32) (st : sw_St), P st → ∃ (r : Int32) (st1 : sw_St) (st2 : sw_St), j_X5_mid F a1 st = some (r, st1) ∧ j_X6_mid F a1 st1 = some (r, st2) ∧ P st2
/-- lots: both answer alike, and what stands between them goes on standing -/
def sm_38 (P : sw_St → Prop) (F : Nat) : Prop := ∀ (a1 a2 : Int32) (st : sw_St), P st → ∃ (r : Int32) (st1 : sw_St) (st2 : sw_St), j_X5_lots F a1 a2 st = some (r, st1) ∧ j_X6_lots F a1 a2 st1 = some (r, st2) ∧ P st2
/-- asked: both answer alike, and what stands between them goes on standing -/
def sm_39 (P : sw_St → Prop) (F : Nat) : Prop := ∀ (st : sw_St), P st → ∃ (r : Int32), j_X5_asked F st = some r ∧ j_X6_asked F st = some r ∧ P st
/-- upper: both answer alike, and what stands between them goes on standing -/
def sm_40 (P : sw_St → Prop) (F : Nat) : Prop := ∀ (st : sw_St), P st → ∃ (r : Int64), j_X5_upper F st = some r ∧ j_X6_upper F st = some r ∧ P st
/-- lower: both answer alike, and what stands between them goes on standing -/
def sm_41 (P : sw_St → Prop) (F : Nat) : Prop := ∀ (st : sw_St), P st → ∃ (r : Int64), j_X5_lower F st = some r ∧ j_X6_lower F st = some r ∧ P st
/-- count: both answer alike, and what stands between them goes on standing -/
def sm_42 (P : sw_St → Prop) (F : Nat) : Prop := ∀ (a1 : Int32) (st : sw_St), P st → ∃ (r : Int32), j_X5_count F a1 st = some r ∧ j_X6_count F a1 st = some r ∧ P st
/-- finding: both answer alike, and what stands between them goes on standing -/
def sm_43 (P : sw_St → Prop) (F : Nat) : Prop := ∀ (st : sw_St), P st → ∃ (r : Int32), j_X5_finding F st = some r ∧ j_X6_finding F st = some r ∧ P st
/-- findings: both answer alike, and what stands between them goes on standing -/
def sm_44 (P : sw_St → Prop) (F : Nat) : Prop := ∀ (a1 : Int32) (st : sw_St), P st → ∃ (r : Int32), j_X5_findings F a1 st = some r ∧ j_X6_findings F a1 st = some r ∧ P st
/-- digest: both answer alike, and what stands between them goes on standing -/
def sm_45 (P : sw_St → Prop) (F : Nat) : Prop := ∀ (st : sw_St), P st → ∃ (r : Int64), j_X5_digest F st = some r ∧ j_X6_digest F st = some r ∧ P st
def sm_all (P : sw_St → Prop) (F : Nat) : Prop := sm_0 P F ∧ sm_1 P F ∧ sm_2 P F ∧ sm_3 P F ∧ sm_4 P F ∧ sm_5 P F ∧ sm_6 P F ∧ sm_7 P F ∧ sm_8 P F ∧ sm_9 P F ∧ sm_10 P F ∧ sm_11 P F ∧ sm_12 P F ∧ sm_13 P F ∧ sm_14 P F ∧ sm_15 P F ∧ sm_16 P F ∧ sm_17 P F ∧ sm_18 P F ∧ sm_19 P F ∧ sm_20 P F ∧ sm_21 P F ∧ sm_22 P F ∧ sm_23 P F ∧ sm_24 P F ∧ sm_25 P F ∧ sm_26 P F ∧ sm_27 P F ∧ sm_28 P F ∧ sm_29 P F ∧ sm_30 P F ∧ sm_31 P F ∧ sm_32 P F ∧ sm_33 P F ∧ sm_34 P F ∧ sm_35 P F ∧ sm_36 P F ∧ sm_37 P F ∧ sm_38 P F ∧ sm_39 P F ∧ sm_40 P F ∧ sm_41 P F ∧ sm_42 P F ∧ sm_43 P F ∧ sm_44 P F ∧ sm_45 P F
set_option maxHeartbeats 4000000 in
theorem lw_case_0 {p : Program} {l : Launch} {e : Env} {s : State} {m : MethodId} {below : List Frame} {meth : Method} {c : Code} {g : sw_G} {Q : State → Prop} {b L : Nat} {xs : Nat → Int32} {I : sw_St → Prop} {F : Nat} (sm : sm_0 I F) (G : lw_G p s m c b g) (hX : va_X b L xs s s.heap) (hbl : b < s.heap.size) {x3 : Int32} (hb1 : vp_in (x3 + 1) L) (hb2 : vp_in (x3 + 2) L) (hb3 : vp_in (x3 + 3) L) (hb4 : vp_in (x3 + 4) L) (hb5 : vp_in (x3 + 5) L) {st : sw_St} (hI : I st) {H : Heap} {lcs : List Loc} {ls : Array Slot} (hP : va_P g.2.1 vwCl (sw_W g st) H) (hS : va_S (fun q : Nat => s.heap.size ≤ q) s.heap H lcs) (hl : lv_has ls 4 [(0, .ref b), (1, .ref (g.1 0)), (2, .ref (g.1 63)), (3, .int x3)])
    (next : ∀ (st2 : sw_St) (H : Heap) (lcs : List Loc), I st2 → va_P g.2.1 vwCl (sw_W g st2) H → va_S (fun q : Nat => s.heap.size ≤ q) s.heap H lcs → W p l e room_1 s m #[Value.ref b] below meth c H lcs 77 5047 Q (F0 m 1393 ls [])) : W p l e room_1 s m #[Value.ref b] below meth c H lcs 77 5047 Q (F0 m 232 ls []) := by
  have hx := G.1
  have hb := G.2.1
  have hbA : ¬ (fun q : Nat => s.heap.size ≤ q) b := Nat.not_le.mpr hbl
  obtain ⟨r, st1, st2, h1, h2, hI2⟩ := sm (xs (x3 + 1).toNatClampNeg) (xs (x3 + 2).toNatClampNeg) st hI
  refine lv_aload_n hx hb dL_law_232 rfl (lv_at hl 1 rfl) ?_
  refine lv_aload_n hx hb dL_law_233 rfl (lv_at hl 0 rfl) ?_
  refine lv_iload_n hx hb dL_law_234 rfl (lv_at hl 3 rfl) ?_
  refine lv_iconst (v := 1) hx hb dL_law_235 (by decide) ?_
  refine lv_iadd hx hb dL_law_236 ?_
  refine va_sld hx hb hX hbl hbA hS hb1 dL_law_237 ?_
  refine lv_aload_n hx hb dL_law_238 rfl (lv_at hl 0 rfl) ?_
  refine lv_iload_n hx hb dL_law_239 rfl (lv_at hl 3 rfl) ?_
  refine lv_iconst (v := 2) hx hb dL_law_240 (by decide) ?_
  refine lv_iadd hx hb dL_law_241 ?_
  refine va_sld hx hb hX hbl hbA hS hb2 dL_law_242 ?_
  refine lw_callI G (o := 0) (As := (fun _ => [.int (xs (x3 + 1).toNatClampNeg), .int (xs (x3 + 2).toNatClampNeg)])) hP hS hl.1 sw_cl5 rfl ws_X5_row (by decide) (c_X5_row F (xs (x3 + 1).toNatClampNeg) (xs (x3 + 2).toNatClampNeg) st h1) rfl rfl (Nat.le_of_ble_eq_true rfl) wm_L_13 dL_law_243 (fun H lcs hP hS => ?_)
  refine lv_aload_n hx hb dL_law_246 rfl (lv_at hl 2 rfl) ?_
  refine lv_aload_n hx hb dL_law_247 rfl (lv_at hl 0 rfl) ?_
  refine lv_iload_n hx hb dL_law_248 rfl (lv_at hl 3 rfl) ?_
  refine lv_iconst (v := 1) hx hb dL_law_249 (by decide) ?_
  refine lv_iadd hx hb dL_law_250 ?_
  refine va_sld hx hb hX hbl hbA hS hb1 dL_law_251 ?_
  refine lv_aload_n hx hb dL_law_252 rfl (lv_at hl 0 rfl) ?_
  refine lv_iload_n hx hb dL_law_253 rfl (lv_at hl 3 rfl) ?_
  refine lv_iconst (v := 2) hx hb dL_law_254 (by decide) ?_
  refine lv_iadd hx hb dL_law_255 ?_
  refine va_sld hx hb hX hbl hbA hS hb2 dL_law_256 ?_
  refine lw_callI G (o := 63) (As := (fun _ => [.int (xs (x3 + 1).toNatClampNeg), .int (xs (x3 + 2).toNatClampNeg)])) hP hS hl.1 sw_cl6 rfl ws_X6_row (by decide) (c_X6_row F (xs (x3 + 1).toNatClampNeg) (xs (x3 + 2).toNatClampNeg) st1 h2) rfl rfl (Nat.le_of_ble_eq_true rfl) wm_L_17 dL_law_257 (fun H lcs hP hS => ?_)
  exact lv_icmp_eq (tgt := 1393) hx hb dL_law_260 (by decide) (fun _ => next st2 H lcs hI2 hP hS) (fun q => absurd rfl q)
set_option maxHeartbeats 4000000 in
theorem lw_case_1 {p : Program} {l : Launch} {e : Env} {s : State} {m : MethodId} {below : List Frame} {meth : Method} {c : Code} {g : sw_G} {Q : State → Prop} {b L : Nat} {xs : Nat → Int32} {I : sw_St → Prop} {F : Nat} (sm : sm_1 I F) (G : lw_G p s m c b g) (hX : va_X b L xs s s.heap) (hbl : b < s.heap.size) {x3 : Int32} (hb1 : vp_in (x3 + 1) L) (hb2 : vp_in (x3 + 2) L) (hb3 : vp_in (x3 + 3) L) (hb4 : vp_in (x3 + 4) L) (hb5 : vp_in (x3 + 5) L) {st : sw_St} (hI : I st) {H : Heap} {lcs : List Loc} {ls : Array Slot} (hP : va_P g.2.1 vwCl (sw_W g st) H) (hS : va_S (fun q : Nat => s.heap.size ≤ q) s.heap H lcs) (hl : lv_has ls 4 [(0, .ref b), (1, .ref (g.1 0)), (2, .ref (g.1 63)), (3, .int x3)])
    (next : ∀ (st2 : sw_St) (H : Heap) (lcs : List Loc), I st2 → va_P g.2.1 vwCl (sw_W g st2) H → va_S (fun q : Nat => s.heap.size ≤ q) s.heap H lcs → W p l e room_1 s m #[Value.ref b] below meth c H lcs 77 5047 Q (F0 m 1393 ls [])) : W p l e room_1 s m #[Value.ref b] below meth c H lcs 77 5047 Q (F0 m 265 ls []) := by
  have hx := G.1
  have hb := G.2.1
  have hbA : ¬ (fun q : Nat => s.heap.size ≤ q) b := Nat.not_le.mpr hbl
  obtain ⟨r, st1, st2, h1, h2, hI2⟩ := sm (xs (x3 + 1).toNatClampNeg) (xs (x3 + 2).toNatClampNeg) (xs (x3 + 3).toNatClampNeg) st hI
  refine lv_aload_n hx hb dL_law_265 rfl (lv_at hl 1 rfl) ?_
  refine lv_aload_n hx hb dL_law_266 rfl (lv_at hl 0 rfl) ?_
  refine lv_iload_n hx hb dL_law_267 rfl (lv_at hl 3 rfl) ?_
  refine lv_iconst (v := 1) hx hb dL_law_268 (by decide) ?_
  refine lv_iadd hx hb dL_law_269 ?_
  refine va_sld hx hb hX hbl hbA hS hb1 dL_law_270 ?_
  refine lv_aload_n hx hb dL_law_271 rfl (lv_at hl 0 rfl) ?_
  refine lv_iload_n hx hb dL_law_272 rfl (lv_at hl 3 rfl) ?_
  refine lv_iconst (v := 2) hx hb dL_law_273 (by decide) ?_
  refine lv_iadd hx hb dL_law_274 ?_
  refine va_sld hx hb hX hbl hbA hS hb2 dL_law_275 ?_
  refine lv_aload_n hx hb dL_law_276 rfl (lv_at hl 0 rfl) ?_
  refine lv_iload_n hx hb dL_law_277 rfl (lv_at hl 3 rfl) ?_
  refine lv_iconst (v := 3) hx hb dL_law_278 (by decide) ?_
  refine lv_iadd hx hb dL_law_279 ?_
  refine va_sld hx hb hX hbl hbA hS hb3 dL_law_280 ?_
  refine lw_callI G (o := 0) (As := (fun _ => [.int (xs (x3 + 1).toNatClampNeg), .int (xs (x3 + 2).toNatClampNeg), .int (xs (x3 + 3).toNatClampNeg)])) hP hS hl.1 sw_cl5 rfl ws_X5_lay (by decide) (c_X5_lay F (xs (x3 + 1).toNatClampNeg) (xs (x3 + 2).toNatClampNeg) (xs (x3 + 3).toNatClampNeg) st h1) rfl rfl (Nat.le_of_ble_eq_true rfl) wm_L_18 dL_law_281 (fun H lcs hP hS => ?_)
  refine lv_aload_n hx hb dL_law_284 rfl (lv_at hl 2 rfl) ?_
  refine lv_aload_n hx hb dL_law_285 rfl (lv_at hl 0 rfl) ?_
  refine lv_iload_n hx hb dL_law_286 rfl (lv_at hl 3 rfl) ?_
  refine lv_iconst (v := 1) hx hb dL_law_287 (by decide) ?_
  refine lv_iadd hx hb dL_law_288 ?_
  refine va_sld hx hb hX hbl hbA hS hb1 dL_law_289 ?_
  refine lv_aload_n hx hb dL_law_290 rfl (lv_at hl 0 rfl) ?_
  refine lv_iload_n hx hb dL_law_291 rfl (lv_at hl 3 rfl) ?_
  refine lv_iconst (v := 2) hx hb dL_law_292 (by decide) ?_
  refine lv_iadd hx hb dL_law_293 ?_
  refine va_sld hx hb hX hbl hbA hS hb2 dL_law_294 ?_
  refine lv_aload_n hx hb dL_law_295 rfl (lv_at hl 0 rfl) ?_
  refine lv_iload_n hx hb dL_law_296 rfl (lv_at hl 3 rfl) ?_
  refine lv_iconst (v := 3) hx hb dL_law_297 (by decide) ?_
  refine lv_iadd hx hb dL_law_298 ?_
  refine va_sld hx hb hX hbl hbA hS hb3 dL_law_299 ?_
  refine lw_callI G (o := 63) (As := (fun _ => [.int (xs (x3 + 1).toNatClampNeg), .int (xs (x3 + 2).toNatClampNeg), .int (xs (x3 + 3).toNatClampNeg)])) hP hS hl.1 sw_cl6 rfl ws_X6_lay (by decide) (c_X6_lay F (xs (x3 + 1).toNatClampNeg) (xs (x3 + 2).toNatClampNeg) (xs (x3 + 3).toNatClampNeg) st1 h2) rfl rfl (Nat.le_of_ble_eq_true rfl) wm_L_22 dL_law_300 (fun H lcs hP hS => ?_)
  exact lv_icmp_eq (tgt := 1393) hx hb dL_law_303 (by decide) (fun _ => next st2 H lcs hI2 hP hS) (fun q => absurd rfl q)
set_option maxHeartbeats 4000000 in
theorem lw_case_2 {p : Program} {l : Launch} {e : Env} {s : State} {m : MethodId} {below : List Frame} {meth : Method} {c : Code} {g : sw_G} {Q : State → Prop} {b L : Nat} {xs : Nat → Int32} {I : sw_St → Prop} {F : Nat} (sm : sm_2 I F) (G : lw_G p s m c b g) (hX : va_X b L xs s s.heap) (hbl : b < s.heap.size) {x3 : Int32} (hb1 : vp_in (x3 + 1) L) (hb2 : vp_in (x3 + 2) L) (hb3 : vp_in (x3 + 3) L) (hb4 : vp_in (x3 + 4) L) (hb5 : vp_in (x3 + 5) L) {st : sw_St} (hI : I st) {H : Heap} {lcs : List Loc} {ls : Array Slot} (hP : va_P g.2.1 vwCl (sw_W g st) H) (hS : va_S (fun q : Nat => s.heap.size ≤ q) s.heap H lcs) (hl : lv_has ls 4 [(0, .ref b), (1, .ref (g.1 0)), (2, .ref (g.1 63)), (3, .int x3)])
    (next : ∀ (st2 : sw_St) (H : Heap) (lcs : List Loc), I st2 → va_P g.2.1 vwCl (sw_W g st2) H → va_S (fun q : Nat => s.heap.size ≤ q) s.heap H lcs → W p l e room_1 s m #[Value.ref b] below meth c H lcs 77 5047 Q (F0 m 1393 ls [])) : W p l e room_1 s m #[Value.ref b] below meth c H lcs 77 5047 Q (F0 m 308 ls []) := by
  have hx := G.1
  have hb := G.2.1
  have hbA : ¬ (fun q : Nat => s.heap.size ≤ q) b := Nat.not_le.mpr hbl
  obtain ⟨r, st1, st2, h1, h2, hI2⟩ := sm (xs (x3 + 1).toNatClampNeg) (xs (x3 + 2).toNatClampNeg) st hI
  refine lv_aload_n hx hb dL_law_308 rfl (lv_at hl 1 rfl) ?_
  refine lv_aload_n hx hb dL_law_309 rfl (lv_at hl 0 rfl) ?_
  refine lv_iload_n hx hb dL_law_310 rfl (lv_at hl 3 rfl) ?_
  refine lv_iconst (v := 1) hx hb dL_law_311 (by decide) ?_
  refine lv_iadd hx hb dL_law_312 ?_
  refine va_sld hx hb hX hbl hbA hS hb1 dL_law_313 ?_
  refine lv_aload_n hx hb dL_law_314 rfl (lv_at hl 0 rfl) ?_
  refine lv_iload_n hx hb dL_law_315 rfl (lv_at hl 3 rfl) ?_
  refine lv_iconst (v := 2) hx hb dL_law_316 (by decide) ?_
  refine lv_iadd hx hb dL_law_317 ?_
  refine va_sld hx hb hX hbl hbA hS hb2 dL_law_318 ?_
  refine lw_callI G (o := 0) (As := (fun _ => [.int (xs (x3 + 1).toNatClampNeg), .int (xs (x3 + 2).toNatClampNeg)])) hP hS hl.1 sw_cl5 rfl ws_X5_at (by decide) (c_X5_at F (xs (x3 + 1).toNatClampNeg) (xs (x3 + 2).toNatClampNeg) st h1) rfl rfl (Nat.le_of_ble_eq_true rfl) wm_L_23 dL_law_319 (fun H lcs hP hS => ?_)
  refine lv_aload_n hx hb dL_law_322 rfl (lv_at hl 2 rfl) ?_
  refine lv_aload_n hx hb dL_law_323 rfl (lv_at hl 0 rfl) ?_
  refine lv_iload_n hx hb dL_law_324 rfl (lv_at hl 3 rfl) ?_
  refine lv_iconst (v := 1) hx hb dL_law_325 (by decide) ?_
  refine lv_iadd hx hb dL_law_326 ?_
  refine va_sld hx hb hX hbl hbA hS hb1 dL_law_327 ?_
  refine lv_aload_n hx hb dL_law_328 rfl (lv_at hl 0 rfl) ?_
  refine lv_iload_n hx hb dL_law_329 rfl (lv_at hl 3 rfl) ?_
  refine lv_iconst (v := 2) hx hb dL_law_330 (by decide) ?_
  refine lv_iadd hx hb dL_law_331 ?_
  refine va_sld hx hb hX hbl hbA hS hb2 dL_law_332 ?_
  refine lw_callI G (o := 63) (As := (fun _ => [.int (xs (x3 + 1).toNatClampNeg), .int (xs (x3 + 2).toNatClampNeg)])) hP hS hl.1 sw_cl6 rfl ws_X6_at (by decide) (c_X6_at F (xs (x3 + 1).toNatClampNeg) (xs (x3 + 2).toNatClampNeg) st1 h2) rfl rfl (Nat.le_of_ble_eq_true rfl) wm_L_26 dL_law_333 (fun H lcs hP hS => ?_)
  exact lv_icmp_eq (tgt := 1393) hx hb dL_law_336 (by decide) (fun _ => next st2 H lcs hI2 hP hS) (fun q => absurd rfl q)
set_option maxHeartbeats 4000000 in
theorem lw_case_3 {p : Program} {l : Launch} {e : Env} {s : State} {m : MethodId} {below : List Frame} {meth : Method} {c : Code} {g : sw_G} {Q : State → Prop} {b L : Nat} {xs : Nat → Int32} {I : sw_St → Prop} {F : Nat} (sm : sm_3 I F) (G : lw_G p s m c b g) (hX : va_X b L xs s s.heap) (hbl : b < s.heap.size) {x3 : Int32} (hb1 : vp_in (x3 + 1) L) (hb2 : vp_in (x3 + 2) L) (hb3 : vp_in (x3 + 3) L) (hb4 : vp_in (x3 + 4) L) (hb5 : vp_in (x3 + 5) L) {st : sw_St} (hI : I st) {H : Heap} {lcs : List Loc} {ls : Array Slot} (hP : va_P g.2.1 vwCl (sw_W g st) H) (hS : va_S (fun q : Nat => s.heap.size ≤ q) s.heap H lcs) (hl : lv_has ls 4 [(0, .ref b), (1, .ref (g.1 0)), (2, .ref (g.1 63)), (3, .int x3)])
    (next : ∀ (st2 : sw_St) (H : Heap) (lcs : List Loc), I st2 → va_P g.2.1 vwCl (sw_W g st2) H → va_S (fun q : Nat => s.heap.size ≤ q) s.heap H lcs → W p l e room_1 s m #[Value.ref b] below meth c H lcs 77 5047 Q (F0 m 1393 ls [])) : W p l e room_1 s m #[Value.ref b] below meth c H lcs 77 5047 Q (F0 m 341 ls []) := by
  have hx := G.1
  have hb := G.2.1
  have hbA : ¬ (fun q : Nat => s.heap.size ≤ q) b := Nat.not_le.mpr hbl
  obtain ⟨r, st1, st2, h1, h2, hI2⟩ := sm (xs (x3 + 1).toNatClampNeg) st hI
  refine lv_aload_n hx hb dL_law_341 rfl (lv_at hl 1 rfl) ?_
  refine lv_aload_n hx hb dL_law_342 rfl (lv_at hl 0 rfl) ?_
  refine lv_iload_n hx hb dL_law_343 rfl (lv_at hl 3 rfl) ?_
  refine lv_iconst (v := 1) hx hb dL_law_344 (by decide) ?_
  refine lv_iadd hx hb dL_law_345 ?_
  refine va_sld hx hb hX hbl hbA hS hb1 dL_law_346 ?_
  refine lw_callI G (o := 0) (As := (fun _ => [.int (xs (x3 + 1).toNatClampNeg)])) hP hS hl.1 sw_cl5 rfl ws_X5_tear (by decide) (c_X5_tear F (xs (x3 + 1).toNatClampNeg) st h1) rfl rfl (Nat.le_of_ble_eq_true rfl) wm_L_27 dL_law_347 (fun H lcs hP hS => ?_)
  refine lv_aload_n hx hb dL_law_350 rfl (lv_at hl 2 rfl) ?_
  refine lv_aload_n hx hb dL_law_351 rfl (lv_at hl 0 rfl) ?_
  refine lv_iload_n hx hb dL_law_352 rfl (lv_at hl 3 rfl) ?_
  refine lv_iconst (v := 1) hx hb dL_law_353 (by decide) ?_
  refine lv_iadd hx hb dL_law_354 ?_
  refine va_sld hx hb hX hbl hbA hS hb1 dL_law_355 ?_
  refine lw_callI G (o := 63) (As := (fun _ => [.int (xs (x3 + 1).toNatClampNeg)])) hP hS hl.1 sw_cl6 rfl ws_X6_tear (by decide) (c_X6_tear F (xs (x3 + 1).toNatClampNeg) st1 h2) rfl rfl (Nat.le_of_ble_eq_true rfl) wm_L_31 dL_law_356 (fun H lcs hP hS => ?_)
  exact lv_icmp_eq (tgt := 1393) hx hb dL_law_359 (by decide) (fun _ => next st2 H lcs hI2 hP hS) (fun q => absurd rfl q)
set_option maxHeartbeats 4000000 in
theorem lw_case_4 {p : Program} {l : Launch} {e : Env} {s : State} {m : MethodId} {below : List Frame} {meth : Method} {c : Code} {g : sw_G} {Q : State → Prop} {b L : Nat} {xs : Nat → Int32} {I : sw_St → Prop} {F : Nat} (sm : sm_4 I F) (G : lw_G p s m c b g) (hX : va_X b L xs s s.heap) (hbl : b < s.heap.size) {x3 : Int32} (hb1 : vp_in (x3 + 1) L) (hb2 : vp_in (x3 + 2) L) (hb3 : vp_in (x3 + 3) L) (hb4 : vp_in (x3 + 4) L) (hb5 : vp_in (x3 + 5) L) {st : sw_St} (hI : I st) {H : Heap} {lcs : List Loc} {ls : Array Slot} (hP : va_P g.2.1 vwCl (sw_W g st) H) (hS : va_S (fun q : Nat => s.heap.size ≤ q) s.heap H lcs) (hl : lv_has ls 4 [(0, .ref b), (1, .ref (g.1 0)), (2, .ref (g.1 63)), (3, .int x3)])
    (next : ∀ (st2 : sw_St) (H : Heap) (lcs : List Loc), I st2 → va_P g.2.1 vwCl (sw_W g st2) H → va_S (fun q : Nat => s.heap.size ≤ q) s.heap H lcs → W p l e room_1 s m #[Value.ref b] below meth c H lcs 77 5047 Q (F0 m 1393 ls [])) : W p l e room_1 s m #[Value.ref b] below meth c H lcs 77 5047 Q (F0 m 364 ls []) := by
  have hx := G.1
  have hb := G.2.1
  have hbA : ¬ (fun q : Nat => s.heap.size ≤ q) b := Nat.not_le.mpr hbl
  obtain ⟨r, st1, st2, h1, h2, hI2⟩ := sm (xs (x3 + 1).toNatClampNeg) (xs (x3 + 2).toNatClampNeg) (xs (x3 + 3).toNatClampNeg) (xs (x3 + 4).toNatClampNeg) (xs (x3 + 5).toNatClampNeg) st hI
  refine lv_aload_n hx hb dL_law_364 rfl (lv_at hl 1 rfl) ?_
  refine lv_aload_n hx hb dL_law_365 rfl (lv_at hl 0 rfl) ?_
  refine lv_iload_n hx hb dL_law_366 rfl (lv_at hl 3 rfl) ?_
  refine lv_iconst (v := 1) hx hb dL_law_367 (by decide) ?_
  refine lv_iadd hx hb dL_law_368 ?_
  refine va_sld hx hb hX hbl hbA hS hb1 dL_law_369 ?_
  refine lv_aload_n hx hb dL_law_370 rfl (lv_at hl 0 rfl) ?_
  refine lv_iload_n hx hb dL_law_371 rfl (lv_at hl 3 rfl) ?_
  refine lv_iconst (v := 2) hx hb dL_law_372 (by decide) ?_
  refine lv_iadd hx hb dL_law_373 ?_
  refine va_sld hx hb hX hbl hbA hS hb2 dL_law_374 ?_
  refine lv_aload_n hx hb dL_law_375 rfl (lv_at hl 0 rfl) ?_
  refine lv_iload_n hx hb dL_law_376 rfl (lv_at hl 3 rfl) ?_
  refine lv_iconst (v := 3) hx hb dL_law_377 (by decide) ?_
  refine lv_iadd hx hb dL_law_378 ?_
  refine va_sld hx hb hX hbl hbA hS hb3 dL_law_379 ?_
  refine lv_aload_n hx hb dL_law_380 rfl (lv_at hl 0 rfl) ?_
  refine lv_iload_n hx hb dL_law_381 rfl (lv_at hl 3 rfl) ?_
  refine lv_iconst (v := 4) hx hb dL_law_382 (by decide) ?_
  refine lv_iadd hx hb dL_law_383 ?_
  refine va_sld hx hb hX hbl hbA hS hb4 dL_law_384 ?_
  refine lv_aload_n hx hb dL_law_385 rfl (lv_at hl 0 rfl) ?_
  refine lv_iload_n hx hb dL_law_386 rfl (lv_at hl 3 rfl) ?_
  refine lv_iconst (v := 5) hx hb dL_law_387 (by decide) ?_
  refine lv_iadd hx hb dL_law_388 ?_
  refine va_sld hx hb hX hbl hbA hS hb5 dL_law_389 ?_
  refine lw_callI G (o := 0) (As := (fun _ => [.int (xs (x3 + 1).toNatClampNeg), .int (xs (x3 + 2).toNatClampNeg), .int (xs (x3 + 3).toNatClampNeg), .int (xs (x3 + 4).toNatClampNeg), .int (xs (x3 + 5).toNatClampNeg)])) hP hS hl.1 sw_cl5 rfl ws_X5_copy (by decide) (c_X5_copy F (xs (x3 + 1).toNatClampNeg) (xs (x3 + 2).toNatClampNeg) (xs (x3 + 3).toNatClampNeg) (xs (x3 + 4).toNatClampNeg) (xs (x3 + 5).toNatClampNeg) st h1) rfl rfl (Nat.le_of_ble_eq_true rfl) wm_L_32 dL_law_390 (fun H lcs hP hS => ?_)
  refine lv_aload_n hx hb dL_law_393 rfl (lv_at hl 2 rfl) ?_
  refine lv_aload_n hx hb dL_law_394 rfl (lv_at hl 0 rfl) ?_
  refine lv_iload_n hx hb dL_law_395 rfl (lv_at hl 3 rfl) ?_
  refine lv_iconst (v := 1) hx hb dL_law_396 (by decide) ?_
  refine lv_iadd hx hb dL_law_397 ?_
  refine va_sld hx hb hX hbl hbA hS hb1 dL_law_398 ?_
  refine lv_aload_n hx hb dL_law_399 rfl (lv_at hl 0 rfl) ?_
  refine lv_iload_n hx hb dL_law_400 rfl (lv_at hl 3 rfl) ?_
  refine lv_iconst (v := 2) hx hb dL_law_401 (by decide) ?_
  refine lv_iadd hx hb dL_law_402 ?_
  refine va_sld hx hb hX hbl hbA hS hb2 dL_law_403 ?_
  refine lv_aload_n hx hb dL_law_404 rfl (lv_at hl 0 rfl) ?_
  refine lv_iload_n hx hb dL_law_405 rfl (lv_at hl 3 rfl) ?_
  refine lv_iconst (v := 3) hx hb dL_law_406 (by decide) ?_
  refine lv_iadd hx hb dL_law_407 ?_
  refine va_sld hx hb hX hbl hbA hS hb3 dL_law_408 ?_
  refine lv_aload_n hx hb dL_law_409 rfl (lv_at hl 0 rfl) ?_
  refine lv_iload_n hx hb dL_law_410 rfl (lv_at hl 3 rfl) ?_
  refine lv_iconst (v := 4) hx hb dL_law_411 (by decide) ?_
  refine lv_iadd hx hb dL_law_412 ?_
  refine va_sld hx hb hX hbl hbA hS hb4 dL_law_413 ?_
  refine lv_aload_n hx hb dL_law_414 rfl (lv_at hl 0 rfl) ?_
  refine lv_iload_n hx hb dL_law_415 rfl (lv_at hl 3 rfl) ?_
  refine lv_iconst (v := 5) hx hb dL_law_416 (by decide) ?_
  refine lv_iadd hx hb dL_law_417 ?_
  refine va_sld hx hb hX hbl hbA hS hb5 dL_law_418 ?_
  refine lw_callI G (o := 63) (As := (fun _ => [.int (xs (x3 + 1).toNatClampNeg), .int (xs (x3 + 2).toNatClampNeg), .int (xs (x3 + 3).toNatClampNeg), .int (xs (x3 + 4).toNatClampNeg), .int (xs (x3 + 5).toNatClampNeg)])) hP hS hl.1 sw_cl6 rfl ws_X6_copy (by decide) (c_X6_copy F (xs (x3 + 1).toNatClampNeg) (xs (x3 + 2).toNatClampNeg) (xs (x3 + 3).toNatClampNeg) (xs (x3 + 4).toNatClampNeg) (xs (x3 + 5).toNatClampNeg) st1 h2) rfl rfl (Nat.le_of_ble_eq_true rfl) wm_L_36 dL_law_419 (fun H lcs hP hS => ?_)
  exact lv_icmp_eq (tgt := 1393) hx hb dL_law_422 (by decide) (fun _ => next st2 H lcs hI2 hP hS) (fun q => absurd rfl q)
set_option maxHeartbeats 4000000 in
theorem lw_case_5 {p : Program} {l : Launch} {e : Env} {s : State} {m : MethodId} {below : List Frame} {meth : Method} {c : Code} {g : sw_G} {Q : State → Prop} {b L : Nat} {xs : Nat → Int32} {I : sw_St → Prop} {F : Nat} (sm : sm_5 I F) (G : lw_G p s m c b g) (hX : va_X b L xs s s.heap) (hbl : b < s.heap.size) {x3 : Int32} (hb1 : vp_in (x3 + 1) L) (hb2 : vp_in (x3 + 2) L) (hb3 : vp_in (x3 + 3) L) (hb4 : vp_in (x3 + 4) L) (hb5 : vp_in (x3 + 5) L) {st : sw_St} (hI : I st) {H : Heap} {lcs : List Loc} {ls : Array Slot} (hP : va_P g.2.1 vwCl (sw_W g st) H) (hS : va_S (fun q : Nat => s.heap.size ≤ q) s.heap H lcs) (hl : lv_has ls 4 [(0, .ref b), (1, .ref (g.1 0)), (2, .ref (g.1 63)), (3, .int x3)])
    (next : ∀ (st2 : sw_St) (H : Heap) (lcs : List Loc), I st2 → va_P g.2.1 vwCl (sw_W g st2) H → va_S (fun q : Nat => s.heap.size ≤ q) s.heap H lcs → W p l e room_1 s m #[Value.ref b] below meth c H lcs 77 5047 Q (F0 m 1393 ls [])) : W p l e room_1 s m #[Value.ref b] below meth c H lcs 77 5047 Q (F0 m 427 ls []) := by
  have hx := G.1
  have hb := G.2.1
  have hbA : ¬ (fun q : Nat => s.heap.size ≤ q) b := Nat.not_le.mpr hbl
  obtain ⟨r, st1, st2, h1, h2, hI2⟩ := sm (xs (x3 + 1).toNatClampNeg) st hI
  refine lv_aload_n hx hb dL_law_427 rfl (lv_at hl 1 rfl) ?_
  refine lv_aload_n hx hb dL_law_428 rfl (lv_at hl 0 rfl) ?_
  refine lv_iload_n hx hb dL_law_429 rfl (lv_at hl 3 rfl) ?_
  refine lv_iconst (v := 1) hx hb dL_law_430 (by decide) ?_
  refine lv_iadd hx hb dL_law_431 ?_
  refine va_sld hx hb hX hbl hbA hS hb1 dL_law_432 ?_
  refine lw_callI G (o := 0) (As := (fun _ => [.int (xs (x3 + 1).toNatClampNeg)])) hP hS hl.1 sw_cl5 rfl ws_X5_mean (by decide) (c_X5_mean F (xs (x3 + 1).toNatClampNeg) st h1) rfl rfl (Nat.le_of_ble_eq_true rfl) wm_L_37 dL_law_433 (fun H lcs hP hS => ?_)
  refine lv_aload_n hx hb dL_law_436 rfl (lv_at hl 2 rfl) ?_
  refine lv_aload_n hx hb dL_law_437 rfl (lv_at hl 0 rfl) ?_
  refine lv_iload_n hx hb dL_law_438 rfl (lv_at hl 3 rfl) ?_
  refine lv_iconst (v := 1) hx hb dL_law_439 (by decide) ?_
  refine lv_iadd hx hb dL_law_440 ?_
  refine va_sld hx hb hX hbl hbA hS hb1 dL_law_441 ?_
  refine lw_callI G (o := 63) (As := (fun _ => [.int (xs (x3 + 1).toNatClampNeg)])) hP hS hl.1 sw_cl6 rfl ws_X6_mean (by decide) (c_X6_mean F (xs (x3 + 1).toNatClampNeg) st1 h2) rfl rfl (Nat.le_of_ble_eq_true rfl) wm_L_40 dL_law_442 (fun H lcs hP hS => ?_)
  exact lv_icmp_eq (tgt := 1393) hx hb dL_law_445 (by decide) (fun _ => next st2 H lcs hI2 hP hS) (fun q => absurd rfl q)
set_option maxHeartbeats 4000000 in
theorem lw_case_6 {p : Program} {l : Launch} {e : Env} {s : State} {m : MethodId} {below : List Frame} {meth : Method} {c : Code} {g : sw_G} {Q : State → Prop} {b L : Nat} {xs : Nat → Int32} {I : sw_St → Prop} {F : Nat} (sm : sm_6 I F) (G : lw_G p s m c b g) (hX : va_X b L xs s s.heap) (hbl : b < s.heap.size) {x3 : Int32} (hb1 : vp_in (x3 + 1) L) (hb2 : vp_in (x3 + 2) L) (hb3 : vp_in (x3 + 3) L) (hb4 : vp_in (x3 + 4) L) (hb5 : vp_in (x3 + 5) L) {st : sw_St} (hI : I st) {H : Heap} {lcs : List Loc} {ls : Array Slot} (hP : va_P g.2.1 vwCl (sw_W g st) H) (hS : va_S (fun q : Nat => s.heap.size ≤ q) s.heap H lcs) (hl : lv_has ls 4 [(0, .ref b), (1, .ref (g.1 0)), (2, .ref (g.1 63)), (3, .int x3)])
    (next : ∀ (st2 : sw_St) (H : Heap) (lcs : List Loc), I st2 → va_P g.2.1 vwCl (sw_W g st2) H → va_S (fun q : Nat => s.heap.size ≤ q) s.heap H lcs → W p l e room_1 s m #[Value.ref b] below meth c H lcs 77 5047 Q (F0 m 1393 ls [])) : W p l e room_1 s m #[Value.ref b] below meth c H lcs 77 5047 Q (F0 m 450 ls []) := by
  have hx := G.1
  have hb := G.2.1
  have hbA : ¬ (fun q : Nat => s.heap.size ≤ q) b := Nat.not_le.mpr hbl
  obtain ⟨r, st1, st2, h1, h2, hI2⟩ := sm (xs (x3 + 1).toNatClampNeg) (xs (x3 + 2).toNatClampNeg) st hI
  refine lv_aload_n hx hb dL_law_450 rfl (lv_at hl 1 rfl) ?_
  refine lv_aload_n hx hb dL_law_451 rfl (lv_at hl 0 rfl) ?_
  refine lv_iload_n hx hb dL_law_452 rfl (lv_at hl 3 rfl) ?_
  refine lv_iconst (v := 1) hx hb dL_law_453 (by decide) ?_
  refine lv_iadd hx hb dL_law_454 ?_
  refine va_sld hx hb hX hbl hbA hS hb1 dL_law_455 ?_
  refine lv_aload_n hx hb dL_law_456 rfl (lv_at hl 0 rfl) ?_
  refine lv_iload_n hx hb dL_law_457 rfl (lv_at hl 3 rfl) ?_
  refine lv_iconst (v := 2) hx hb dL_law_458 (by decide) ?_
  refine lv_iadd hx hb dL_law_459 ?_
  refine va_sld hx hb hX hbl hbA hS hb2 dL_law_460 ?_
  refine lw_callI G (o := 0) (As := (fun _ => [.int (xs (x3 + 1).toNatClampNeg), .int (xs (x3 + 2).toNatClampNeg)])) hP hS hl.1 sw_cl5 rfl ws_X5_text (by decide) (c_X5_text F (xs (x3 + 1).toNatClampNeg) (xs (x3 + 2).toNatClampNeg) st h1) rfl rfl (Nat.le_of_ble_eq_true rfl) wm_L_41 dL_law_461 (fun H lcs hP hS => ?_)
  refine lv_aload_n hx hb dL_law_464 rfl (lv_at hl 2 rfl) ?_
  refine lv_aload_n hx hb dL_law_465 rfl (lv_at hl 0 rfl) ?_
  refine lv_iload_n hx hb dL_law_466 rfl (lv_at hl 3 rfl) ?_
  refine lv_iconst (v := 1) hx hb dL_law_467 (by decide) ?_
  refine lv_iadd hx hb dL_law_468 ?_
  refine va_sld hx hb hX hbl hbA hS hb1 dL_law_469 ?_
  refine lv_aload_n hx hb dL_law_470 rfl (lv_at hl 0 rfl) ?_
  refine lv_iload_n hx hb dL_law_471 rfl (lv_at hl 3 rfl) ?_
  refine lv_iconst (v := 2) hx hb dL_law_472 (by decide) ?_
  refine lv_iadd hx hb dL_law_473 ?_
  refine va_sld hx hb hX hbl hbA hS hb2 dL_law_474 ?_
  refine lw_callI G (o := 63) (As := (fun _ => [.int (xs (x3 + 1).toNatClampNeg), .int (xs (x3 + 2).toNatClampNeg)])) hP hS hl.1 sw_cl6 rfl ws_X6_text (by decide) (c_X6_text F (xs (x3 + 1).toNatClampNeg) (xs (x3 + 2).toNatClampNeg) st1 h2) rfl rfl (Nat.le_of_ble_eq_true rfl) wm_L_44 dL_law_475 (fun H lcs hP hS => ?_)
  exact lv_icmp_eq (tgt := 1393) hx hb dL_law_478 (by decide) (fun _ => next st2 H lcs hI2 hP hS) (fun q => absurd rfl q)
set_option maxHeartbeats 4000000 in
theorem lw_case_7 {p : Program} {l : Launch} {e : Env} {s : State} {m : MethodId} {below : List Frame} {meth : Method} {c : Code} {g : sw_G} {Q : State → Prop} {b L : Nat} {xs : Nat → Int32} {I : sw_St → Prop} {F : Nat} (sm : sm_7 I F) (G : lw_G p s m c b g) (hX : va_X b L xs s s.heap) (hbl : b < s.heap.size) {x3 : Int32} (hb1 : vp_in (x3 + 1) L) (hb2 : vp_in (x3 + 2) L) (hb3 : vp_in (x3 + 3) L) (hb4 : vp_in (x3 + 4) L) (hb5 : vp_in (x3 + 5) L) {st : sw_St} (hI : I st) {H : Heap} {lcs : List Loc} {ls : Array Slot} (hP : va_P g.2.1 vwCl (sw_W g st) H) (hS : va_S (fun q : Nat => s.heap.size ≤ q) s.heap H lcs) (hl : lv_has ls 4 [(0, .ref b), (1, .ref (g.1 0)), (2, .ref (g.1 63)), (3, .int x3)])
    (next : ∀ (st2 : sw_St) (H : Heap) (lcs : List Loc), I st2 → va_P g.2.1 vwCl (sw_W g st2) H → va_S (fun q : Nat => s.heap.size ≤ q) s.heap H lcs → W p l e room_1 s m #[Value.ref b] below meth c H lcs 77 5047 Q (F0 m 1393 ls [])) : W p l e room_1 s m #[Value.ref b] below meth c H lcs 77 5047 Q (F0 m 483 ls []) := by
  have hx := G.1
  have hb := G.2.1
  have hbA : ¬ (fun q : Nat => s.heap.size ≤ q) b := Nat.not_le.mpr hbl
  obtain ⟨r, st1, st2, h1, h2, hI2⟩ := sm (xs (x3 + 1).toNatClampNeg) (xs (x3 + 2).toNatClampNeg) (xs (x3 + 3).toNatClampNeg) st hI
  refine lv_aload_n hx hb dL_law_483 rfl (lv_at hl 1 rfl) ?_
  refine lv_aload_n hx hb dL_law_484 rfl (lv_at hl 0 rfl) ?_
  refine lv_iload_n hx hb dL_law_485 rfl (lv_at hl 3 rfl) ?_
  refine lv_iconst (v := 1) hx hb dL_law_486 (by decide) ?_
  refine lv_iadd hx hb dL_law_487 ?_
  refine va_sld hx hb hX hbl hbA hS hb1 dL_law_488 ?_
  refine lv_aload_n hx hb dL_law_489 rfl (lv_at hl 0 rfl) ?_
  refine lv_iload_n hx hb dL_law_490 rfl (lv_at hl 3 rfl) ?_
  refine lv_iconst (v := 2) hx hb dL_law_491 (by decide) ?_
  refine lv_iadd hx hb dL_law_492 ?_
  refine va_sld hx hb hX hbl hbA hS hb2 dL_law_493 ?_
  refine lv_aload_n hx hb dL_law_494 rfl (lv_at hl 0 rfl) ?_
  refine lv_iload_n hx hb dL_law_495 rfl (lv_at hl 3 rfl) ?_
  refine lv_iconst (v := 3) hx hb dL_law_496 (by decide) ?_
  refine lv_iadd hx hb dL_law_497 ?_
  refine va_sld hx hb hX hbl hbA hS hb3 dL_law_498 ?_
  refine lw_callI G (o := 0) (As := (fun _ => [.int (xs (x3 + 1).toNatClampNeg), .int (xs (x3 + 2).toNatClampNeg), .int (xs (x3 + 3).toNatClampNeg)])) hP hS hl.1 sw_cl5 rfl ws_X5_put (by decide) (c_X5_put F (xs (x3 + 1).toNatClampNeg) (xs (x3 + 2).toNatClampNeg) (xs (x3 + 3).toNatClampNeg) st h1) rfl rfl (Nat.le_of_ble_eq_true rfl) wm_L_45 dL_law_499 (fun H lcs hP hS => ?_)
  refine lv_aload_n hx hb dL_law_502 rfl (lv_at hl 2 rfl) ?_
  refine lv_aload_n hx hb dL_law_503 rfl (lv_at hl 0 rfl) ?_
  refine lv_iload_n hx hb dL_law_504 rfl (lv_at hl 3 rfl) ?_
  refine lv_iconst (v := 1) hx hb dL_law_505 (by decide) ?_
  refine lv_iadd hx hb dL_law_506 ?_
  refine va_sld hx hb hX hbl hbA hS hb1 dL_law_507 ?_
  refine lv_aload_n hx hb dL_law_508 rfl (lv_at hl 0 rfl) ?_
  refine lv_iload_n hx hb dL_law_509 rfl (lv_at hl 3 rfl) ?_
  refine lv_iconst (v := 2) hx hb dL_law_510 (by decide) ?_
  refine lv_iadd hx hb dL_law_511 ?_
  refine va_sld hx hb hX hbl hbA hS hb2 dL_law_512 ?_
  refine lv_aload_n hx hb dL_law_513 rfl (lv_at hl 0 rfl) ?_
  refine lv_iload_n hx hb dL_law_514 rfl (lv_at hl 3 rfl) ?_
  refine lv_iconst (v := 3) hx hb dL_law_515 (by decide) ?_
  refine lv_iadd hx hb dL_law_516 ?_
  refine va_sld hx hb hX hbl hbA hS hb3 dL_law_517 ?_
  refine lw_callI G (o := 63) (As := (fun _ => [.int (xs (x3 + 1).toNatClampNeg), .int (xs (x3 + 2).toNatClampNeg), .int (xs (x3 + 3).toNatClampNeg)])) hP hS hl.1 sw_cl6 rfl ws_X6_put (by decide) (c_X6_put F (xs (x3 + 1).toNatClampNeg) (xs (x3 + 2).toNatClampNeg) (xs (x3 + 3).toNatClampNeg) st1 h2) rfl rfl (Nat.le_of_ble_eq_true rfl) wm_L_48 dL_law_518 (fun H lcs hP hS => ?_)
  exact lv_icmp_eq (tgt := 1393) hx hb dL_law_521 (by decide) (fun _ => next st2 H lcs hI2 hP hS) (fun q => absurd rfl q)
set_option maxHeartbeats 4000000 in
theorem lw_case_8 {p : Program} {l : Launch} {e : Env} {s : State} {m : MethodId} {below : List Frame} {meth : Method} {c : Code} {g : sw_G} {Q : State → Prop} {b L : Nat} {xs : Nat → Int32} {I : sw_St → Prop} {F : Nat} (sm : sm_8 I F) (G : lw_G p s m c b g) (hX : va_X b L xs s s.heap) (hbl : b < s.heap.size) {x3 : Int32} (hb1 : vp_in (x3 + 1) L) (hb2 : vp_in (x3 + 2) L) (hb3 : vp_in (x3 + 3) L) (hb4 : vp_in (x3 + 4) L) (hb5 : vp_in (x3 + 5) L) {st : sw_St} (hI : I st) {H : Heap} {lcs : List Loc} {ls : Array Slot} (hP : va_P g.2.1 vwCl (sw_W g st) H) (hS : va_S (fun q : Nat => s.heap.size ≤ q) s.heap H lcs) (hl : lv_has ls 4 [(0, .ref b), (1, .ref (g.1 0)), (2, .ref (g.1 63)), (3, .int x3)])
    (next : ∀ (st2 : sw_St) (H : Heap) (lcs : List Loc), I st2 → va_P g.2.1 vwCl (sw_W g st2) H → va_S (fun q : Nat => s.heap.size ≤ q) s.heap H lcs → W p l e room_1 s m #[Value.ref b] below meth c H lcs 77 5047 Q (F0 m 1393 ls [])) : W p l e room_1 s m #[Value.ref b] below meth c H lcs 77 5047 Q (F0 m 526 ls []) := by
  have hx := G.1
  have hb := G.2.1
  have hbA : ¬ (fun q : Nat => s.heap.size ≤ q) b := Nat.not_le.mpr hbl
  obtain ⟨r, st1, st2, h1, h2, hI2⟩ := sm (xs (x3 + 1).toNatClampNeg) st hI
  refine lv_aload_n hx hb dL_law_526 rfl (lv_at hl 1 rfl) ?_
  refine lv_aload_n hx hb dL_law_527 rfl (lv_at hl 0 rfl) ?_
  refine lv_iload_n hx hb dL_law_528 rfl (lv_at hl 3 rfl) ?_
  refine lv_iconst (v := 1) hx hb dL_law_529 (by decide) ?_
  refine lv_iadd hx hb dL_law_530 ?_
  refine va_sld hx hb hX hbl hbA hS hb1 dL_law_531 ?_
  refine lw_callI G (o := 0) (As := (fun _ => [.int (xs (x3 + 1).toNatClampNeg)])) hP hS hl.1 sw_cl5 rfl ws_X5_fault (by decide) (c_X5_fault F (xs (x3 + 1).toNatClampNeg) st h1) rfl rfl (Nat.le_of_ble_eq_true rfl) wm_L_49 dL_law_532 (fun H lcs hP hS => ?_)
  refine lv_aload_n hx hb dL_law_535 rfl (lv_at hl 2 rfl) ?_
  refine lv_aload_n hx hb dL_law_536 rfl (lv_at hl 0 rfl) ?_
  refine lv_iload_n hx hb dL_law_537 rfl (lv_at hl 3 rfl) ?_
  refine lv_iconst (v := 1) hx hb dL_law_538 (by decide) ?_
  refine lv_iadd hx hb dL_law_539 ?_
  refine va_sld hx hb hX hbl hbA hS hb1 dL_law_540 ?_
  refine lw_callI G (o := 63) (As := (fun _ => [.int (xs (x3 + 1).toNatClampNeg)])) hP hS hl.1 sw_cl6 rfl ws_X6_fault (by decide) (c_X6_fault F (xs (x3 + 1).toNatClampNeg) st1 h2) rfl rfl (Nat.le_of_ble_eq_true rfl) wm_L_52 dL_law_541 (fun H lcs hP hS => ?_)
  exact lv_icmp_eq (tgt := 1393) hx hb dL_law_544 (by decide) (fun _ => next st2 H lcs hI2 hP hS) (fun q => absurd rfl q)
set_option maxHeartbeats 4000000 in
theorem lw_case_9 {p : Program} {l : Launch} {e : Env} {s : State} {m : MethodId} {below : List Frame} {meth : Method} {c : Code} {g : sw_G} {Q : State → Prop} {b L : Nat} {xs : Nat → Int32} {I : sw_St → Prop} {F : Nat} (sm : sm_9 I F) (G : lw_G p s m c b g) (hX : va_X b L xs s s.heap) (hbl : b < s.heap.size) {x3 : Int32} (hb1 : vp_in (x3 + 1) L) (hb2 : vp_in (x3 + 2) L) (hb3 : vp_in (x3 + 3) L) (hb4 : vp_in (x3 + 4) L) (hb5 : vp_in (x3 + 5) L) {st : sw_St} (hI : I st) {H : Heap} {lcs : List Loc} {ls : Array Slot} (hP : va_P g.2.1 vwCl (sw_W g st) H) (hS : va_S (fun q : Nat => s.heap.size ≤ q) s.heap H lcs) (hl : lv_has ls 4 [(0, .ref b), (1, .ref (g.1 0)), (2, .ref (g.1 63)), (3, .int x3)])
    (next : ∀ (st2 : sw_St) (H : Heap) (lcs : List Loc), I st2 → va_P g.2.1 vwCl (sw_W g st2) H → va_S (fun q : Nat => s.heap.size ≤ q) s.heap H lcs → W p l e room_1 s m #[Value.ref b] below meth c H lcs 77 5047 Q (F0 m 1393 ls [])) : W p l e room_1 s m #[Value.ref b] below meth c H lcs 77 5047 Q (F0 m 549 ls []) := by
  have hx := G.1
  have hb := G.2.1
  have hbA : ¬ (fun q : Nat => s.heap.size ≤ q) b := Nat.not_le.mpr hbl
  obtain ⟨r, st1, st2, h1, h2, hI2⟩ := sm (xs (x3 + 1).toNatClampNeg) st hI
  refine lv_aload_n hx hb dL_law_549 rfl (lv_at hl 1 rfl) ?_
  refine lv_aload_n hx hb dL_law_550 rfl (lv_at hl 0 rfl) ?_
  refine lv_iload_n hx hb dL_law_551 rfl (lv_at hl 3 rfl) ?_
  refine lv_iconst (v := 1) hx hb dL_law_552 (by decide) ?_
  refine lv_iadd hx hb dL_law_553 ?_
  refine va_sld hx hb hX hbl hbA hS hb1 dL_law_554 ?_
  refine lw_callI G (o := 0) (As := (fun _ => [.int (xs (x3 + 1).toNatClampNeg)])) hP hS hl.1 sw_cl5 rfl ws_X5_town (by decide) (c_X5_town F (xs (x3 + 1).toNatClampNeg) st h1) rfl rfl (Nat.le_of_ble_eq_true rfl) wm_L_53 dL_law_555 (fun H lcs hP hS => ?_)
  refine lv_aload_n hx hb dL_law_558 rfl (lv_at hl 2 rfl) ?_
  refine lv_aload_n hx hb dL_law_559 rfl (lv_at hl 0 rfl) ?_
  refine lv_iload_n hx hb dL_law_560 rfl (lv_at hl 3 rfl) ?_
  refine lv_iconst (v := 1) hx hb dL_law_561 (by decide) ?_
  refine lv_iadd hx hb dL_law_562 ?_
  refine va_sld hx hb hX hbl hbA hS hb1 dL_law_563 ?_
  refine lw_callI G (o := 63) (As := (fun _ => [.int (xs (x3 + 1).toNatClampNeg)])) hP hS hl.1 sw_cl6 rfl ws_X6_town (by decide) (c_X6_town F (xs (x3 + 1).toNatClampNeg) st1 h2) rfl rfl (Nat.le_of_ble_eq_true rfl) wm_L_56 dL_law_564 (fun H lcs hP hS => ?_)
  exact lv_icmp_eq (tgt := 1393) hx hb dL_law_567 (by decide) (fun _ => next st2 H lcs hI2 hP hS) (fun q => absurd rfl q)
set_option maxHeartbeats 4000000 in
theorem lw_case_10 {p : Program} {l : Launch} {e : Env} {s : State} {m : MethodId} {below : List Frame} {meth : Method} {c : Code} {g : sw_G} {Q : State → Prop} {b L : Nat} {xs : Nat → Int32} {I : sw_St → Prop} {F : Nat} (sm : sm_10 I F) (G : lw_G p s m c b g) (hX : va_X b L xs s s.heap) (hbl : b < s.heap.size) {x3 : Int32} (hb1 : vp_in (x3 + 1) L) (hb2 : vp_in (x3 + 2) L) (hb3 : vp_in (x3 + 3) L) (hb4 : vp_in (x3 + 4) L) (hb5 : vp_in (x3 + 5) L) {st : sw_St} (hI : I st) {H : Heap} {lcs : List Loc} {ls : Array Slot} (hP : va_P g.2.1 vwCl (sw_W g st) H) (hS : va_S (fun q : Nat => s.heap.size ≤ q) s.heap H lcs) (hl : lv_has ls 4 [(0, .ref b), (1, .ref (g.1 0)), (2, .ref (g.1 63)), (3, .int x3)])
    (next : ∀ (st2 : sw_St) (H : Heap) (lcs : List Loc), I st2 → va_P g.2.1 vwCl (sw_W g st2) H → va_S (fun q : Nat => s.heap.size ≤ q) s.heap H lcs → W p l e room_1 s m #[Value.ref b] below meth c H lcs 77 5047 Q (F0 m 1393 ls [])) : W p l e room_1 s m #[Value.ref b] below meth c H lcs 77 5047 Q (F0 m 572 ls []) := by
  have hx := G.1
  have hb := G.2.1
  have hbA : ¬ (fun q : Nat => s.heap.size ≤ q) b := Nat.not_le.mpr hbl
  obtain ⟨r, st1, st2, h1, h2, hI2⟩ := sm (xs (x3 + 1).toNatClampNeg) (xs (x3 + 2).toNatClampNeg) st hI
  refine lv_aload_n hx hb dL_law_572 rfl (lv_at hl 1 rfl) ?_
  refine lv_aload_n hx hb dL_law_573 rfl (lv_at hl 0 rfl) ?_
  refine lv_iload_n hx hb dL_law_574 rfl (lv_at hl 3 rfl) ?_
  refine lv_iconst (v := 1) hx hb dL_law_575 (by decide) ?_
  refine lv_iadd hx hb dL_law_576 ?_
  refine va_sld hx hb hX hbl hbA hS hb1 dL_law_577 ?_
  refine lv_aload_n hx hb dL_law_578 rfl (lv_at hl 0 rfl) ?_
  refine lv_iload_n hx hb dL_law_579 rfl (lv_at hl 3 rfl) ?_
  refine lv_iconst (v := 2) hx hb dL_law_580 (by decide) ?_
  refine lv_iadd hx hb dL_law_581 ?_
  refine va_sld hx hb hX hbl hbA hS hb2 dL_law_582 ?_
  refine lw_callI G (o := 0) (As := (fun _ => [.int (xs (x3 + 1).toNatClampNeg), .int (xs (x3 + 2).toNatClampNeg)])) hP hS hl.1 sw_cl5 rfl ws_X5_stranger (by decide) (c_X5_stranger F (xs (x3 + 1).toNatClampNeg) (xs (x3 + 2).toNatClampNeg) st h1) rfl rfl (Nat.le_of_ble_eq_true rfl) wm_L_57 dL_law_583 (fun H lcs hP hS => ?_)
  refine lv_aload_n hx hb dL_law_586 rfl (lv_at hl 2 rfl) ?_
  refine lv_aload_n hx hb dL_law_587 rfl (lv_at hl 0 rfl) ?_
  refine lv_iload_n hx hb dL_law_588 rfl (lv_at hl 3 rfl) ?_
  refine lv_iconst (v := 1) hx hb dL_law_589 (by decide) ?_
  refine lv_iadd hx hb dL_law_590 ?_
  refine va_sld hx hb hX hbl hbA hS hb1 dL_law_591 ?_
  refine lv_aload_n hx hb dL_law_592 rfl (lv_at hl 0 rfl) ?_
  refine lv_iload_n hx hb dL_law_593 rfl (lv_at hl 3 rfl) ?_
  refine lv_iconst (v := 2) hx hb dL_law_594 (by decide) ?_
  refine lv_iadd hx hb dL_law_595 ?_
  refine va_sld hx hb hX hbl hbA hS hb2 dL_law_596 ?_
  refine lw_callI G (o := 63) (As := (fun _ => [.int (xs (x3 + 1).toNatClampNeg), .int (xs (x3 + 2).toNatClampNeg)])) hP hS hl.1 sw_cl6 rfl ws_X6_stranger (by decide) (c_X6_stranger F (xs (x3 + 1).toNatClampNeg) (xs (x3 + 2).toNatClampNeg) st1 h2) rfl rfl (Nat.le_of_ble_eq_true rfl) wm_L_60 dL_law_597 (fun H lcs hP hS => ?_)
  exact lv_icmp_eq (tgt := 1393) hx hb dL_law_600 (by decide) (fun _ => next st2 H lcs hI2 hP hS) (fun q => absurd rfl q)
set_option maxHeartbeats 4000000 in
theorem lw_case_11 {p : Program} {l : Launch} {e : Env} {s : State} {m : MethodId} {below : List Frame} {meth : Method} {c : Code} {g : sw_G} {Q : State → Prop} {b L : Nat} {xs : Nat → Int32} {I : sw_St → Prop} {F : Nat} (sm : sm_11 I F) (G : lw_G p s m c b g) (hX : va_X b L xs s s.heap) (hbl : b < s.heap.size) {x3 : Int32} (hb1 : vp_in (x3 + 1) L) (hb2 : vp_in (x3 + 2) L) (hb3 : vp_in (x3 + 3) L) (hb4 : vp_in (x3 + 4) L) (hb5 : vp_in (x3 + 5) L) {st : sw_St} (hI : I st) {H : Heap} {lcs : List Loc} {ls : Array Slot} (hP : va_P g.2.1 vwCl (sw_W g st) H) (hS : va_S (fun q : Nat => s.heap.size ≤ q) s.heap H lcs) (hl : lv_has ls 4 [(0, .ref b), (1, .ref (g.1 0)), (2, .ref (g.1 63)), (3, .int x3)])
    (next : ∀ (st2 : sw_St) (H : Heap) (lcs : List Loc), I st2 → va_P g.2.1 vwCl (sw_W g st2) H → va_S (fun q : Nat => s.heap.size ≤ q) s.heap H lcs → W p l e room_1 s m #[Value.ref b] below meth c H lcs 77 5047 Q (F0 m 1393 ls [])) : W p l e room_1 s m #[Value.ref b] below meth c H lcs 77 5047 Q (F0 m 605 ls []) := by
  have hx := G.1
  have hb := G.2.1
  have hbA : ¬ (fun q : Nat => s.heap.size ≤ q) b := Nat.not_le.mpr hbl
  obtain ⟨r, st1, st2, h1, h2, hI2⟩ := sm (xs (x3 + 1).toNatClampNeg) (xs (x3 + 2).toNatClampNeg) st hI
  refine lv_aload_n hx hb dL_law_605 rfl (lv_at hl 1 rfl) ?_
  refine lv_aload_n hx hb dL_law_606 rfl (lv_at hl 0 rfl) ?_
  refine lv_iload_n hx hb dL_law_607 rfl (lv_at hl 3 rfl) ?_
  refine lv_iconst (v := 1) hx hb dL_law_608 (by decide) ?_
  refine lv_iadd hx hb dL_law_609 ?_
  refine va_sld hx hb hX hbl hbA hS hb1 dL_law_610 ?_
  refine lv_aload_n hx hb dL_law_611 rfl (lv_at hl 0 rfl) ?_
  refine lv_iload_n hx hb dL_law_612 rfl (lv_at hl 3 rfl) ?_
  refine lv_iconst (v := 2) hx hb dL_law_613 (by decide) ?_
  refine lv_iadd hx hb dL_law_614 ?_
  refine va_sld hx hb hX hbl hbA hS hb2 dL_law_615 ?_
  refine lw_callI G (o := 0) (As := (fun _ => [.int (xs (x3 + 1).toNatClampNeg), .int (xs (x3 + 2).toNatClampNeg)])) hP hS hl.1 sw_cl5 rfl ws_X5_mark (by decide) (c_X5_mark F (xs (x3 + 1).toNatClampNeg) (xs (x3 + 2).toNatClampNeg) st h1) rfl rfl (Nat.le_of_ble_eq_true rfl) wm_L_61 dL_law_616 (fun H lcs hP hS => ?_)
  refine lv_aload_n hx hb dL_law_619 rfl (lv_at hl 2 rfl) ?_
  refine lv_aload_n hx hb dL_law_620 rfl (lv_at hl 0 rfl) ?_
  refine lv_iload_n hx hb dL_law_621 rfl (lv_at hl 3 rfl) ?_
  refine lv_iconst (v := 1) hx hb dL_law_622 (by decide) ?_
  refine lv_iadd hx hb dL_law_623 ?_
  refine va_sld hx hb hX hbl hbA hS hb1 dL_law_624 ?_
  refine lv_aload_n hx hb dL_law_625 rfl (lv_at hl 0 rfl) ?_
  refine lv_iload_n hx hb dL_law_626 rfl (lv_at hl 3 rfl) ?_
  refine lv_iconst (v := 2) hx hb dL_law_627 (by decide) ?_
  refine lv_iadd hx hb dL_law_628 ?_
  refine va_sld hx hb hX hbl hbA hS hb2 dL_law_629 ?_
  refine lw_callI G (o := 63) (As := (fun _ => [.int (xs (x3 + 1).toNatClampNeg), .int (xs (x3 + 2).toNatClampNeg)])) hP hS hl.1 sw_cl6 rfl ws_X6_mark (by decide) (c_X6_mark F (xs (x3 + 1).toNatClampNeg) (xs (x3 + 2).toNatClampNeg) st1 h2) rfl rfl (Nat.le_of_ble_eq_true rfl) wm_L_64 dL_law_630 (fun H lcs hP hS => ?_)
  exact lv_icmp_eq (tgt := 1393) hx hb dL_law_633 (by decide) (fun _ => next st2 H lcs hI2 hP hS) (fun q => absurd rfl q)
set_option maxHeartbeats 4000000 in
theorem lw_case_12 {p : Program} {l : Launch} {e : Env} {s : State} {m : MethodId} {below : List Frame} {meth : Method} {c : Code} {g : sw_G} {Q : State → Prop} {b L : Nat} {xs : Nat → Int32} {I : sw_St → Prop} {F : Nat} (sm : sm_12 I F) (G : lw_G p s m c b g) (hX : va_X b L xs s s.heap) (hbl : b < s.heap.size) {x3 : Int32} (hb1 : vp_in (x3 + 1) L) (hb2 : vp_in (x3 + 2) L) (hb3 : vp_in (x3 + 3) L) (hb4 : vp_in (x3 + 4) L) (hb5 : vp_in (x3 + 5) L) {st : sw_St} (hI : I st) {H : Heap} {lcs : List Loc} {ls : Array Slot} (hP : va_P g.2.1 vwCl (sw_W g st) H) (hS : va_S (fun q : Nat => s.heap.size ≤ q) s.heap H lcs) (hl : lv_has ls 4 [(0, .ref b), (1, .ref (g.1 0)), (2, .ref (g.1 63)), (3, .int x3)])
    (next : ∀ (st2 : sw_St) (H : Heap) (lcs : List Loc), I st2 → va_P g.2.1 vwCl (sw_W g st2) H → va_S (fun q : Nat => s.heap.size ≤ q) s.heap H lcs → W p l e room_1 s m #[Value.ref b] below meth c H lcs 77 5047 Q (F0 m 1393 ls [])) : W p l e room_1 s m #[Value.ref b] below meth c H lcs 77 5047 Q (F0 m 638 ls []) := by
  have hx := G.1
  have hb := G.2.1
  have hbA : ¬ (fun q : Nat => s.heap.size ≤ q) b := Nat.not_le.mpr hbl
  obtain ⟨r, st1, st2, h1, h2, hI2⟩ := sm (xs (x3 + 1).toNatClampNeg) st hI
  refine lv_aload_n hx hb dL_law_638 rfl (lv_at hl 1 rfl) ?_
  refine lv_aload_n hx hb dL_law_639 rfl (lv_at hl 0 rfl) ?_
  refine lv_iload_n hx hb dL_law_640 rfl (lv_at hl 3 rfl) ?_
  refine lv_iconst (v := 1) hx hb dL_law_641 (by decide) ?_
  refine lv_iadd hx hb dL_law_642 ?_
  refine va_sld hx hb hX hbl hbA hS hb1 dL_law_643 ?_
  refine lw_callI G (o := 0) (As := (fun _ => [.int (xs (x3 + 1).toNatClampNeg)])) hP hS hl.1 sw_cl5 rfl ws_X5_gate (by decide) (c_X5_gate F (xs (x3 + 1).toNatClampNeg) st h1) rfl rfl (Nat.le_of_ble_eq_true rfl) wm_L_65 dL_law_644 (fun H lcs hP hS => ?_)
  refine lv_aload_n hx hb dL_law_647 rfl (lv_at hl 2 rfl) ?_
  refine lv_aload_n hx hb dL_law_648 rfl (lv_at hl 0 rfl) ?_
  refine lv_iload_n hx hb dL_law_649 rfl (lv_at hl 3 rfl) ?_
  refine lv_iconst (v := 1) hx hb dL_law_650 (by decide) ?_
  refine lv_iadd hx hb dL_law_651 ?_
  refine va_sld hx hb hX hbl hbA hS hb1 dL_law_652 ?_
  refine lw_callI G (o := 63) (As := (fun _ => [.int (xs (x3 + 1).toNatClampNeg)])) hP hS hl.1 sw_cl6 rfl ws_X6_gate (by decide) (c_X6_gate F (xs (x3 + 1).toNatClampNeg) st1 h2) rfl rfl (Nat.le_of_ble_eq_true rfl) wm_L_68 dL_law_653 (fun H lcs hP hS => ?_)
  exact lv_icmp_eq (tgt := 1393) hx hb dL_law_656 (by decide) (fun _ => next st2 H lcs hI2 hP hS) (fun q => absurd rfl q)
set_option maxHeartbeats 4000000 in
theorem lw_case_13 {p : Program} {l : Launch} {e : Env} {s : State} {m : MethodId} {below : List Frame} {meth : Method} {c : Code} {g : sw_G} {Q : State → Prop} {b L : Nat} {xs : Nat → Int32} {I : sw_St → Prop} {F : Nat} (sm : sm_13 I F) (G : lw_G p s m c b g) (hX : va_X b L xs s s.heap) (hbl : b < s.heap.size) {x3 : Int32} (hb1 : vp_in (x3 + 1) L) (hb2 : vp_in (x3 + 2) L) (hb3 : vp_in (x3 + 3) L) (hb4 : vp_in (x3 + 4) L) (hb5 : vp_in (x3 + 5) L) {st : sw_St} (hI : I st) {H : Heap} {lcs : List Loc} {ls : Array Slot} (hP : va_P g.2.1 vwCl (sw_W g st) H) (hS : va_S (fun q : Nat => s.heap.size ≤ q) s.heap H lcs) (hl : lv_has ls 4 [(0, .ref b), (1, .ref (g.1 0)), (2, .ref (g.1 63)), (3, .int x3)])
    (next : ∀ (st2 : sw_St) (H : Heap) (lcs : List Loc), I st2 → va_P g.2.1 vwCl (sw_W g st2) H → va_S (fun q : Nat => s.heap.size ≤ q) s.heap H lcs → W p l e room_1 s m #[Value.ref b] below meth c H lcs 77 5047 Q (F0 m 1393 ls [])) : W p l e room_1 s m #[Value.ref b] below meth c H lcs 77 5047 Q (F0 m 661 ls []) := by
  have hx := G.1
  have hb := G.2.1
  have hbA : ¬ (fun q : Nat => s.heap.size ≤ q) b := Nat.not_le.mpr hbl
  obtain ⟨r, st1, st2, h1, h2, hI2⟩ := sm (xs (x3 + 1).toNatClampNeg) st hI
  refine lv_aload_n hx hb dL_law_661 rfl (lv_at hl 1 rfl) ?_
  refine lv_aload_n hx hb dL_law_662 rfl (lv_at hl 0 rfl) ?_
  refine lv_iload_n hx hb dL_law_663 rfl (lv_at hl 3 rfl) ?_
  refine lv_iconst (v := 1) hx hb dL_law_664 (by decide) ?_
  refine lv_iadd hx hb dL_law_665 ?_
  refine va_sld hx hb hX hbl hbA hS hb1 dL_law_666 ?_
  refine lw_callI G (o := 0) (As := (fun _ => [.int (xs (x3 + 1).toNatClampNeg)])) hP hS hl.1 sw_cl5 rfl ws_X5_let (by decide) (c_X5_let F (xs (x3 + 1).toNatClampNeg) st h1) rfl rfl (Nat.le_of_ble_eq_true rfl) wm_L_69 dL_law_667 (fun H lcs hP hS => ?_)
  refine lv_aload_n hx hb dL_law_670 rfl (lv_at hl 2 rfl) ?_
  refine lv_aload_n hx hb dL_law_671 rfl (lv_at hl 0 rfl) ?_
  refine lv_iload_n hx hb dL_law_672 rfl (lv_at hl 3 rfl) ?_
  refine lv_iconst (v := 1) hx hb dL_law_673 (by decide) ?_
  refine lv_iadd hx hb dL_law_674 ?_
  refine va_sld hx hb hX hbl hbA hS hb1 dL_law_675 ?_
  refine lw_callI G (o := 63) (As := (fun _ => [.int (xs (x3 + 1).toNatClampNeg)])) hP hS hl.1 sw_cl6 rfl ws_X6_let (by decide) (c_X6_let F (xs (x3 + 1).toNatClampNeg) st1 h2) rfl rfl (Nat.le_of_ble_eq_true rfl) wm_L_72 dL_law_676 (fun H lcs hP hS => ?_)
  exact lv_icmp_eq (tgt := 1393) hx hb dL_law_679 (by decide) (fun _ => next st2 H lcs hI2 hP hS) (fun q => absurd rfl q)
set_option maxHeartbeats 4000000 in
theorem lw_case_14 {p : Program} {l : Launch} {e : Env} {s : State} {m : MethodId} {below : List Frame} {meth : Method} {c : Code} {g : sw_G} {Q : State → Prop} {b L : Nat} {xs : Nat → Int32} {I : sw_St → Prop} {F : Nat} (sm : sm_14 I F) (G : lw_G p s m c b g) (hX : va_X b L xs s s.heap) (hbl : b < s.heap.size) {x3 : Int32} (hb1 : vp_in (x3 + 1) L) (hb2 : vp_in (x3 + 2) L) (hb3 : vp_in (x3 + 3) L) (hb4 : vp_in (x3 + 4) L) (hb5 : vp_in (x3 + 5) L) {st : sw_St} (hI : I st) {H : Heap} {lcs : List Loc} {ls : Array Slot} (hP : va_P g.2.1 vwCl (sw_W g st) H) (hS : va_S (fun q : Nat => s.heap.size ≤ q) s.heap H lcs) (hl : lv_has ls 4 [(0, .ref b), (1, .ref (g.1 0)), (2, .ref (g.1 63)), (3, .int x3)])
    (next : ∀ (st2 : sw_St) (H : Heap) (lcs : List Loc), I st2 → va_P g.2.1 vwCl (sw_W g st2) H → va_S (fun q : Nat => s.heap.size ≤ q) s.heap H lcs → W p l e room_1 s m #[Value.ref b] below meth c H lcs 77 5047 Q (F0 m 1393 ls [])) : W p l e room_1 s m #[Value.ref b] below meth c H lcs 77 5047 Q (F0 m 684 ls []) := by
  have hx := G.1
  have hb := G.2.1
  have hbA : ¬ (fun q : Nat => s.heap.size ≤ q) b := Nat.not_le.mpr hbl
  obtain ⟨r, st1, st2, h1, h2, hI2⟩ := sm (xs (x3 + 1).toNatClampNeg) st hI
  refine lv_aload_n hx hb dL_law_684 rfl (lv_at hl 1 rfl) ?_
  refine lv_aload_n hx hb dL_law_685 rfl (lv_at hl 0 rfl) ?_
  refine lv_iload_n hx hb dL_law_686 rfl (lv_at hl 3 rfl) ?_
  refine lv_iconst (v := 1) hx hb dL_law_687 (by decide) ?_
  refine lv_iadd hx hb dL_law_688 ?_
  refine va_sld hx hb hX hbl hbA hS hb1 dL_law_689 ?_
  refine lw_callI G (o := 0) (As := (fun _ => [.int (xs (x3 + 1).toNatClampNeg)])) hP hS hl.1 sw_cl5 rfl ws_X5_leave (by decide) (c_X5_leave F (xs (x3 + 1).toNatClampNeg) st h1) rfl rfl (Nat.le_of_ble_eq_true rfl) wm_L_73 dL_law_690 (fun H lcs hP hS => ?_)
  refine lv_aload_n hx hb dL_law_693 rfl (lv_at hl 2 rfl) ?_
  refine lv_aload_n hx hb dL_law_694 rfl (lv_at hl 0 rfl) ?_
  refine lv_iload_n hx hb dL_law_695 rfl (lv_at hl 3 rfl) ?_
  refine lv_iconst (v := 1) hx hb dL_law_696 (by decide) ?_
  refine lv_iadd hx hb dL_law_697 ?_
  refine va_sld hx hb hX hbl hbA hS hb1 dL_law_698 ?_
  refine lw_callI G (o := 63) (As := (fun _ => [.int (xs (x3 + 1).toNatClampNeg)])) hP hS hl.1 sw_cl6 rfl ws_X6_leave (by decide) (c_X6_leave F (xs (x3 + 1).toNatClampNeg) st1 h2) rfl rfl (Nat.le_of_ble_eq_true rfl) wm_L_76 dL_law_699 (fun H lcs hP hS => ?_)
  exact lv_icmp_eq (tgt := 1393) hx hb dL_law_702 (by decide) (fun _ => next st2 H lcs hI2 hP hS) (fun q => absurd rfl q)
set_option maxHeartbeats 4000000 in
theorem lw_case_15 {p : Program} {l : Launch} {e : Env} {s : State} {m : MethodId} {below : List Frame} {meth : Method} {c : Code} {g : sw_G} {Q : State → Prop} {b L : Nat} {xs : Nat → Int32} {I : sw_St → Prop} {F : Nat} (sm : sm_15 I F) (G : lw_G p s m c b g) (hX : va_X b L xs s s.heap) (hbl : b < s.heap.size) {x3 : Int32} (hb1 : vp_in (x3 + 1) L) (hb2 : vp_in (x3 + 2) L) (hb3 : vp_in (x3 + 3) L) (hb4 : vp_in (x3 + 4) L) (hb5 : vp_in (x3 + 5) L) {st : sw_St} (hI : I st) {H : Heap} {lcs : List Loc} {ls : Array Slot} (hP : va_P g.2.1 vwCl (sw_W g st) H) (hS : va_S (fun q : Nat => s.heap.size ≤ q) s.heap H lcs) (hl : lv_has ls 4 [(0, .ref b), (1, .ref (g.1 0)), (2, .ref (g.1 63)), (3, .int x3)])
    (next : ∀ (st2 : sw_St) (H : Heap) (lcs : List Loc), I st2 → va_P g.2.1 vwCl (sw_W g st2) H → va_S (fun q : Nat => s.heap.size ≤ q) s.heap H lcs → W p l e room_1 s m #[Value.ref b] below meth c H lcs 77 5047 Q (F0 m 1393 ls [])) : W p l e room_1 s m #[Value.ref b] below meth c H lcs 77 5047 Q (F0 m 707 ls []) := by
  have hx := G.1
  have hb := G.2.1
  have hbA : ¬ (fun q : Nat => s.heap.size ≤ q) b := Nat.not_le.mpr hbl
  obtain ⟨r, st1, st2, h1, h2, hI2⟩ := sm st hI
  refine lv_aload_n hx hb dL_law_707 rfl (lv_at hl 1 rfl) ?_
  refine lw_callI G (o := 0) (As := (fun _ => [])) hP hS hl.1 sw_cl5 rfl ws_X5_hour (by decide) (c_X5_hour F st h1) rfl rfl (Nat.le_of_ble_eq_true rfl) wm_L_77 dL_law_708 (fun H lcs hP hS => ?_)
  refine lv_aload_n hx hb dL_law_711 rfl (lv_at hl 2 rfl) ?_
  refine lw_callI G (o := 63) (As := (fun _ => [])) hP hS hl.1 sw_cl6 rfl ws_X6_hour (by decide) (c_X6_hour F st1 h2) rfl rfl (Nat.le_of_ble_eq_true rfl) wm_L_81 dL_law_712 (fun H lcs hP hS => ?_)
  exact lv_icmp_eq (tgt := 1393) hx hb dL_law_715 (by decide) (fun _ => next st2 H lcs hI2 hP hS) (fun q => absurd rfl q)
set_option maxHeartbeats 4000000 in
theorem lw_case_16 {p : Program} {l : Launch} {e : Env} {s : State} {m : MethodId} {below : List Frame} {meth : Method} {c : Code} {g : sw_G} {Q : State → Prop} {b L : Nat} {xs : Nat → Int32} {I : sw_St → Prop} {F : Nat} (sm : sm_16 I F) (G : lw_G p s m c b g) (hX : va_X b L xs s s.heap) (hbl : b < s.heap.size) {x3 : Int32} (hb1 : vp_in (x3 + 1) L) (hb2 : vp_in (x3 + 2) L) (hb3 : vp_in (x3 + 3) L) (hb4 : vp_in (x3 + 4) L) (hb5 : vp_in (x3 + 5) L) {st : sw_St} (hI : I st) {H : Heap} {lcs : List Loc} {ls : Array Slot} (hP : va_P g.2.1 vwCl (sw_W g st) H) (hS : va_S (fun q : Nat => s.heap.size ≤ q) s.heap H lcs) (hl : lv_has ls 4 [(0, .ref b), (1, .ref (g.1 0)), (2, .ref (g.1 63)), (3, .int x3)])
    (next : ∀ (st2 : sw_St) (H : Heap) (lcs : List Loc), I st2 → va_P g.2.1 vwCl (sw_W g st2) H → va_S (fun q : Nat => s.heap.size ≤ q) s.heap H lcs → W p l e room_1 s m #[Value.ref b] below meth c H lcs 77 5047 Q (F0 m 1393 ls [])) : W p l e room_1 s m #[Value.ref b] below meth c H lcs 77 5047 Q (F0 m 720 ls []) := by
  have hx := G.1
  have hb := G.2.1
  have hbA : ¬ (fun q : Nat => s.heap.size ≤ q) b := Nat.not_le.mpr hbl
  obtain ⟨r, st1, st2, h1, h2, hI2⟩ := sm (xs (x3 + 1).toNatClampNeg) st hI
  refine lv_aload_n hx hb dL_law_720 rfl (lv_at hl 1 rfl) ?_
  refine lv_aload_n hx hb dL_law_721 rfl (lv_at hl 0 rfl) ?_
  refine lv_iload_n hx hb dL_law_722 rfl (lv_at hl 3 rfl) ?_
  refine lv_iconst (v := 1) hx hb dL_law_723 (by decide) ?_
  refine lv_iadd hx hb dL_law_724 ?_
  refine va_sld hx hb hX hbl hbA hS hb1 dL_law_725 ?_
  refine lw_callI G (o := 0) (As := (fun _ => [.int (xs (x3 + 1).toNatClampNeg)])) hP hS hl.1 sw_cl5 rfl ws_X5_frost (by decide) (c_X5_frost F (xs (x3 + 1).toNatClampNeg) st h1) rfl rfl (Nat.le_of_ble_eq_true rfl) wm_L_82 dL_law_726 (fun H lcs hP hS => ?_)
  refine lv_aload_n hx hb dL_law_729 rfl (lv_at hl 2 rfl) ?_
  refine lv_aload_n hx hb dL_law_730 rfl (lv_at hl 0 rfl) ?_
  refine lv_iload_n hx hb dL_law_731 rfl (lv_at hl 3 rfl) ?_
  refine lv_iconst (v := 1) hx hb dL_law_732 (by decide) ?_
  refine lv_iadd hx hb dL_law_733 ?_
  refine va_sld hx hb hX hbl hbA hS hb1 dL_law_734 ?_
  refine lw_callI G (o := 63) (As := (fun _ => [.int (xs (x3 + 1).toNatClampNeg)])) hP hS hl.1 sw_cl6 rfl ws_X6_frost (by decide) (c_X6_frost F (xs (x3 + 1).toNatClampNeg) st1 h2) rfl rfl (Nat.le_of_ble_eq_true rfl) wm_L_85 dL_law_735 (fun H lcs hP hS => ?_)
  exact lv_icmp_eq (tgt := 1393) hx hb dL_law_738 (by decide) (fun _ => next st2 H lcs hI2 hP hS) (fun q => absurd rfl q)
set_option maxHeartbeats 4000000 in
theorem lw_case_17 {p : Program} {l : Launch} {e : Env} {s : State} {m : MethodId} {below : List Frame} {meth : Method} {c : Code} {g : sw_G} {Q : State → Prop} {b L : Nat} {xs : Nat → Int32} {I : sw_St → Prop} {F : Nat} (sm : sm_17 I F) (G : lw_G p s m c b g) (hX : va_X b L xs s s.heap) (hbl : b < s.heap.size) {x3 : Int32} (hb1 : vp_in (x3 + 1) L) (hb2 : vp_in (x3 + 2) L) (hb3 : vp_in (x3 + 3) L) (hb4 : vp_in (x3 + 4) L) (hb5 : vp_in (x3 + 5) L) {st : sw_St} (hI : I st) {H : Heap} {lcs : List Loc} {ls : Array Slot} (hP : va_P g.2.1 vwCl (sw_W g st) H) (hS : va_S (fun q : Nat => s.heap.size ≤ q) s.heap H lcs) (hl : lv_has ls 4 [(0, .ref b), (1, .ref (g.1 0)), (2, .ref (g.1 63)), (3, .int x3)])
    (next : ∀ (st2 : sw_St) (H : Heap) (lcs : List Loc), I st2 → va_P g.2.1 vwCl (sw_W g st2) H → va_S (fun q : Nat => s.heap.size ≤ q) s.heap H lcs → W p l e room_1 s m #[Value.ref b] below meth c H lcs 77 5047 Q (F0 m 1393 ls [])) : W p l e room_1 s m #[Value.ref b] below meth c H lcs 77 5047 Q (F0 m 743 ls []) := by
  have hx := G.1
  have hb := G.2.1
  have hbA : ¬ (fun q : Nat => s.heap.size ≤ q) b := Nat.not_le.mpr hbl
  obtain ⟨r, st1, st2, h1, h2, hI2⟩ := sm (xs (x3 + 1).toNatClampNeg) st hI
  refine lv_aload_n hx hb dL_law_743 rfl (lv_at hl 1 rfl) ?_
  refine lv_aload_n hx hb dL_law_744 rfl (lv_at hl 0 rfl) ?_
  refine lv_iload_n hx hb dL_law_745 rfl (lv_at hl 3 rfl) ?_
  refine lv_iconst (v := 1) hx hb dL_law_746 (by decide) ?_
  refine lv_iadd hx hb dL_law_747 ?_
  refine va_sld hx hb hX hbl hbA hS hb1 dL_law_748 ?_
  refine lw_callI G (o := 0) (As := (fun _ => [.int (xs (x3 + 1).toNatClampNeg)])) hP hS hl.1 sw_cl5 rfl ws_X5_undo (by decide) (c_X5_undo F (xs (x3 + 1).toNatClampNeg) st h1) rfl rfl (Nat.le_of_ble_eq_true rfl) wm_L_86 dL_law_749 (fun H lcs hP hS => ?_)
  refine lv_aload_n hx hb dL_law_752 rfl (lv_at hl 2 rfl) ?_
  refine lv_aload_n hx hb dL_law_753 rfl (lv_at hl 0 rfl) ?_
  refine lv_iload_n hx hb dL_law_754 rfl (lv_at hl 3 rfl) ?_
  refine lv_iconst (v := 1) hx hb dL_law_755 (by decide) ?_
  refine lv_iadd hx hb dL_law_756 ?_
  refine va_sld hx hb hX hbl hbA hS hb1 dL_law_757 ?_
  refine lw_callI G (o := 63) (As := (fun _ => [.int (xs (x3 + 1).toNatClampNeg)])) hP hS hl.1 sw_cl6 rfl ws_X6_undo (by decide) (c_X6_undo F (xs (x3 + 1).toNatClampNeg) st1 h2) rfl rfl (Nat.le_of_ble_eq_true rfl) wm_L_89 dL_law_758 (fun H lcs hP hS => ?_)
  exact lv_icmp_eq (tgt := 1393) hx hb dL_law_761 (by decide) (fun _ => next st2 H lcs hI2 hP hS) (fun q => absurd rfl q)
set_option maxHeartbeats 4000000 in
theorem lw_case_18 {p : Program} {l : Launch} {e : Env} {s : State} {m : MethodId} {below : List Frame} {meth : Method} {c : Code} {g : sw_G} {Q : State → Prop} {b L : Nat} {xs : Nat → Int32} {I : sw_St → Prop} {F : Nat} (sm : sm_18 I F) (G : lw_G p s m c b g) (hX : va_X b L xs s s.heap) (hbl : b < s.heap.size) {x3 : Int32} (hb1 : vp_in (x3 + 1) L) (hb2 : vp_in (x3 + 2) L) (hb3 : vp_in (x3 + 3) L) (hb4 : vp_in (x3 + 4) L) (hb5 : vp_in (x3 + 5) L) {st : sw_St} (hI : I st) {H : Heap} {lcs : List Loc} {ls : Array Slot} (hP : va_P g.2.1 vwCl (sw_W g st) H) (hS : va_S (fun q : Nat => s.heap.size ≤ q) s.heap H lcs) (hl : lv_has ls 4 [(0, .ref b), (1, .ref (g.1 0)), (2, .ref (g.1 63)), (3, .int x3)])
    (next : ∀ (st2 : sw_St) (H : Heap) (lcs : List Loc), I st2 → va_P g.2.1 vwCl (sw_W g st2) H → va_S (fun q : Nat => s.heap.size ≤ q) s.heap H lcs → W p l e room_1 s m #[Value.ref b] below meth c H lcs 77 5047 Q (F0 m 1393 ls [])) : W p l e room_1 s m #[Value.ref b] below meth c H lcs 77 5047 Q (F0 m 766 ls []) := by
  have hx := G.1
  have hb := G.2.1
  have hbA : ¬ (fun q : Nat => s.heap.size ≤ q) b := Nat.not_le.mpr hbl
  obtain ⟨r, st1, st2, h1, h2, hI2⟩ := sm (xs (x3 + 1).toNatClampNeg) st hI
  refine lv_aload_n hx hb dL_law_766 rfl (lv_at hl 1 rfl) ?_
  refine lv_aload_n hx hb dL_law_767 rfl (lv_at hl 0 rfl) ?_
  refine lv_iload_n hx hb dL_law_768 rfl (lv_at hl 3 rfl) ?_
  refine lv_iconst (v := 1) hx hb dL_law_769 (by decide) ?_
  refine lv_iadd hx hb dL_law_770 ?_
  refine va_sld hx hb hX hbl hbA hS hb1 dL_law_771 ?_
  refine lw_callI G (o := 0) (As := (fun _ => [.int (xs (x3 + 1).toNatClampNeg)])) hP hS hl.1 sw_cl5 rfl ws_X5_keep (by decide) (c_X5_keep F (xs (x3 + 1).toNatClampNeg) st h1) rfl rfl (Nat.le_of_ble_eq_true rfl) wm_L_90 dL_law_772 (fun H lcs hP hS => ?_)
  refine lv_aload_n hx hb dL_law_775 rfl (lv_at hl 2 rfl) ?_
  refine lv_aload_n hx hb dL_law_776 rfl (lv_at hl 0 rfl) ?_
  refine lv_iload_n hx hb dL_law_777 rfl (lv_at hl 3 rfl) ?_
  refine lv_iconst (v := 1) hx hb dL_law_778 (by decide) ?_
  refine lv_iadd hx hb dL_law_779 ?_
  refine va_sld hx hb hX hbl hbA hS hb1 dL_law_780 ?_
  refine lw_callI G (o := 63) (As := (fun _ => [.int (xs (x3 + 1).toNatClampNeg)])) hP hS hl.1 sw_cl6 rfl ws_X6_keep (by decide) (c_X6_keep F (xs (x3 + 1).toNatClampNeg) st1 h2) rfl rfl (Nat.le_of_ble_eq_true rfl) wm_L_93 dL_law_781 (fun H lcs hP hS => ?_)
  exact lv_icmp_eq (tgt := 1393) hx hb dL_law_784 (by decide) (fun _ => next st2 H lcs hI2 hP hS) (fun q => absurd rfl q)
set_option maxHeartbeats 4000000 in
theorem lw_case_19 {p : Program} {l : Launch} {e : Env} {s : State} {m : MethodId} {below : List Frame} {meth : Method} {c : Code} {g : sw_G} {Q : State → Prop} {b L : Nat} {xs : Nat → Int32} {I : sw_St → Prop} {F : Nat} (sm : sm_19 I F) (G : lw_G p s m c b g) (hX : va_X b L xs s s.heap) (hbl : b < s.heap.size) {x3 : Int32} (hb1 : vp_in (x3 + 1) L) (hb2 : vp_in (x3 + 2) L) (hb3 : vp_in (x3 + 3) L) (hb4 : vp_in (x3 + 4) L) (hb5 : vp_in (x3 + 5) L) {st : sw_St} (hI : I st) {H : Heap} {lcs : List Loc} {ls : Array Slot} (hP : va_P g.2.1 vwCl (sw_W g st) H) (hS : va_S (fun q : Nat => s.heap.size ≤ q) s.heap H lcs) (hl : lv_has ls 4 [(0, .ref b), (1, .ref (g.1 0)), (2, .ref (g.1 63)), (3, .int x3)])
    (next : ∀ (st2 : sw_St) (H : Heap) (lcs : List Loc), I st2 → va_P g.2.1 vwCl (sw_W g st2) H → va_S (fun q : Nat => s.heap.size ≤ q) s.heap H lcs → W p l e room_1 s m #[Value.ref b] below meth c H lcs 77 5047 Q (F0 m 1393 ls [])) : W p l e room_1 s m #[Value.ref b] below meth c H lcs 77 5047 Q (F0 m 789 ls []) := by
  have hx := G.1
  have hb := G.2.1
  have hbA : ¬ (fun q : Nat => s.heap.size ≤ q) b := Nat.not_le.mpr hbl
  obtain ⟨r, st1, st2, h1, h2, hI2⟩ := sm (xs (x3 + 1).toNatClampNeg) st hI
  refine lv_aload_n hx hb dL_law_789 rfl (lv_at hl 1 rfl) ?_
  refine lv_aload_n hx hb dL_law_790 rfl (lv_at hl 0 rfl) ?_
  refine lv_iload_n hx hb dL_law_791 rfl (lv_at hl 3 rfl) ?_
  refine lv_iconst (v := 1) hx hb dL_law_792 (by decide) ?_
  refine lv_iadd hx hb dL_law_793 ?_
  refine va_sld hx hb hX hbl hbA hS hb1 dL_law_794 ?_
  refine lw_callI G (o := 0) (As := (fun _ => [.int (xs (x3 + 1).toNatClampNeg)])) hP hS hl.1 sw_cl5 rfl ws_X5_on (by decide) (c_X5_on F (xs (x3 + 1).toNatClampNeg) st h1) rfl rfl (Nat.le_of_ble_eq_true rfl) wm_L_94 dL_law_795 (fun H lcs hP hS => ?_)
  refine lv_aload_n hx hb dL_law_798 rfl (lv_at hl 2 rfl) ?_
  refine lv_aload_n hx hb dL_law_799 rfl (lv_at hl 0 rfl) ?_
  refine lv_iload_n hx hb dL_law_800 rfl (lv_at hl 3 rfl) ?_
  refine lv_iconst (v := 1) hx hb dL_law_801 (by decide) ?_
  refine lv_iadd hx hb dL_law_802 ?_
  refine va_sld hx hb hX hbl hbA hS hb1 dL_law_803 ?_
  refine lw_callI G (o := 63) (As := (fun _ => [.int (xs (x3 + 1).toNatClampNeg)])) hP hS hl.1 sw_cl6 rfl ws_X6_on (by decide) (c_X6_on F (xs (x3 + 1).toNatClampNeg) st1 h2) rfl rfl (Nat.le_of_ble_eq_true rfl) wm_L_97 dL_law_804 (fun H lcs hP hS => ?_)
  exact lv_icmp_eq (tgt := 1393) hx hb dL_law_807 (by decide) (fun _ => next st2 H lcs hI2 hP hS) (fun q => absurd rfl q)
set_option maxHeartbeats 4000000 in
theorem lw_case_20 {p : Program} {l : Launch} {e : Env} {s : State} {m : MethodId} {below : List Frame} {meth : Method} {c : Code} {g : sw_G} {Q : State → Prop} {b L : Nat} {xs : Nat → Int32} {I : sw_St → Prop} {F : Nat} (sm : sm_20 I F) (G : lw_G p s m c b g) (hX : va_X b L xs s s.heap) (hbl : b < s.heap.size) {x3 : Int32} (hb1 : vp_in (x3 + 1) L) (hb2 : vp_in (x3 + 2) L) (hb3 : vp_in (x3 + 3) L) (hb4 : vp_in (x3 + 4) L) (hb5 : vp_in (x3 + 5) L) {st : sw_St} (hI : I st) {H : Heap} {lcs : List Loc} {ls : Array Slot} (hP : va_P g.2.1 vwCl (sw_W g st) H) (hS : va_S (fun q : Nat => s.heap.size ≤ q) s.heap H lcs) (hl : lv_has ls 4 [(0, .ref b), (1, .ref (g.1 0)), (2, .ref (g.1 63)), (3, .int x3)])
    (next : ∀ (st2 : sw_St) (H : Heap) (lcs : List Loc), I st2 → va_P g.2.1 vwCl (sw_W g st2) H → va_S (fun q : Nat => s.heap.size ≤ q) s.heap H lcs → W p l e room_1 s m #[Value.ref b] below meth c H lcs 77 5047 Q (F0 m 1393 ls [])) : W p l e room_1 s m #[Value.ref b] below meth c H lcs 77 5047 Q (F0 m 812 ls []) := by
  have hx := G.1
  have hb := G.2.1
  have hbA : ¬ (fun q : Nat => s.heap.size ≤ q) b := Nat.not_le.mpr hbl
  obtain ⟨r, st1, st2, h1, h2, hI2⟩ := sm st hI
  refine lv_aload_n hx hb dL_law_812 rfl (lv_at hl 1 rfl) ?_
  refine lw_callI G (o := 0) (As := (fun _ => [])) hP hS hl.1 sw_cl5 rfl ws_X5_lasts (by decide) (c_X5_lasts F st h1) rfl rfl (Nat.le_of_ble_eq_true rfl) wm_L_98 dL_law_813 (fun H lcs hP hS => ?_)
  refine lv_aload_n hx hb dL_law_816 rfl (lv_at hl 2 rfl) ?_
  refine lw_callI G (o := 63) (As := (fun _ => [])) hP hS hl.1 sw_cl6 rfl ws_X6_lasts (by decide) (c_X6_lasts F st1 h2) rfl rfl (Nat.le_of_ble_eq_true rfl) wm_L_101 dL_law_817 (fun H lcs hP hS => ?_)
  exact lv_icmp_eq (tgt := 1393) hx hb dL_law_820 (by decide) (fun _ => next st2 H lcs hI2 hP hS) (fun q => absurd rfl q)
set_option maxHeartbeats 4000000 in
theorem lw_case_21 {p : Program} {l : Launch} {e : Env} {s : State} {m : MethodId} {below : List Frame} {meth : Method} {c : Code} {g : sw_G} {Q : State → Prop} {b L : Nat} {xs : Nat → Int32} {I : sw_St → Prop} {F : Nat} (sm : sm_21 I F) (G : lw_G p s m c b g) (hX : va_X b L xs s s.heap) (hbl : b < s.heap.size) {x3 : Int32} (hb1 : vp_in (x3 + 1) L) (hb2 : vp_in (x3 + 2) L) (hb3 : vp_in (x3 + 3) L) (hb4 : vp_in (x3 + 4) L) (hb5 : vp_in (x3 + 5) L) {st : sw_St} (hI : I st) {H : Heap} {lcs : List Loc} {ls : Array Slot} (hP : va_P g.2.1 vwCl (sw_W g st) H) (hS : va_S (fun q : Nat => s.heap.size ≤ q) s.heap H lcs) (hl : lv_has ls 4 [(0, .ref b), (1, .ref (g.1 0)), (2, .ref (g.1 63)), (3, .int x3)])
    (next : ∀ (st2 : sw_St) (H : Heap) (lcs : List Loc), I st2 → va_P g.2.1 vwCl (sw_W g st2) H → va_S (fun q : Nat => s.heap.size ≤ q) s.heap H lcs → W p l e room_1 s m #[Value.ref b] below meth c H lcs 77 5047 Q (F0 m 1393 ls [])) : W p l e room_1 s m #[Value.ref b] below meth c H lcs 77 5047 Q (F0 m 825 ls []) := by
  have hx := G.1
  have hb := G.2.1
  have hbA : ¬ (fun q : Nat => s.heap.size ≤ q) b := Nat.not_le.mpr hbl
  obtain ⟨r, st1, st2, h1, h2, hI2⟩ := sm (xs (x3 + 1).toNatClampNeg) st hI
  refine lv_aload_n hx hb dL_law_825 rfl (lv_at hl 1 rfl) ?_
  refine lv_aload_n hx hb dL_law_826 rfl (lv_at hl 0 rfl) ?_
  refine lv_iload_n hx hb dL_law_827 rfl (lv_at hl 3 rfl) ?_
  refine lv_iconst (v := 1) hx hb dL_law_828 (by decide) ?_
  refine lv_iadd hx hb dL_law_829 ?_
  refine va_sld hx hb hX hbl hbA hS hb1 dL_law_830 ?_
  refine lw_callI G (o := 0) (As := (fun _ => [.int (xs (x3 + 1).toNatClampNeg)])) hP hS hl.1 sw_cl5 rfl ws_X5_wound (by decide) (c_X5_wound F (xs (x3 + 1).toNatClampNeg) st h1) rfl rfl (Nat.le_of_ble_eq_true rfl) wm_L_102 dL_law_831 (fun H lcs hP hS => ?_)
  refine lv_aload_n hx hb dL_law_834 rfl (lv_at hl 2 rfl) ?_
  refine lv_aload_n hx hb dL_law_835 rfl (lv_at hl 0 rfl) ?_
  refine lv_iload_n hx hb dL_law_836 rfl (lv_at hl 3 rfl) ?_
  refine lv_iconst (v := 1) hx hb dL_law_837 (by decide) ?_
  refine lv_iadd hx hb dL_law_838 ?_
  refine va_sld hx hb hX hbl hbA hS hb1 dL_law_839 ?_
  refine lw_callI G (o := 63) (As := (fun _ => [.int (xs (x3 + 1).toNatClampNeg)])) hP hS hl.1 sw_cl6 rfl ws_X6_wound (by decide) (c_X6_wound F (xs (x3 + 1).toNatClampNeg) st1 h2) rfl rfl (Nat.le_of_ble_eq_true rfl) wm_L_105 dL_law_840 (fun H lcs hP hS => ?_)
  exact lv_icmp_eq (tgt := 1393) hx hb dL_law_843 (by decide) (fun _ => next st2 H lcs hI2 hP hS) (fun q => absurd rfl q)
set_option maxHeartbeats 4000000 in
theorem lw_case_22 {p : Program} {l : Launch} {e : Env} {s : State} {m : MethodId} {below : List Frame} {meth : Method} {c : Code} {g : sw_G} {Q : State → Prop} {b L : Nat} {xs : Nat → Int32} {I : sw_St → Prop} {F : Nat} (sm : sm_22 I F) (G : lw_G p s m c b g) (hX : va_X b L xs s s.heap) (hbl : b < s.heap.size) {x3 : Int32} (hb1 : vp_in (x3 + 1) L) (hb2 : vp_in (x3 + 2) L) (hb3 : vp_in (x3 + 3) L) (hb4 : vp_in (x3 + 4) L) (hb5 : vp_in (x3 + 5) L) {st : sw_St} (hI : I st) {H : Heap} {lcs : List Loc} {ls : Array Slot} (hP : va_P g.2.1 vwCl (sw_W g st) H) (hS : va_S (fun q : Nat => s.heap.size ≤ q) s.heap H lcs) (hl : lv_has ls 4 [(0, .ref b), (1, .ref (g.1 0)), (2, .ref (g.1 63)), (3, .int x3)])
    (next : ∀ (st2 : sw_St) (H : Heap) (lcs : List Loc), I st2 → va_P g.2.1 vwCl (sw_W g st2) H → va_S (fun q : Nat => s.heap.size ≤ q) s.heap H lcs → W p l e room_1 s m #[Value.ref b] below meth c H lcs 77 5047 Q (F0 m 1393 ls [])) : W p l e room_1 s m #[Value.ref b] below meth c H lcs 77 5047 Q (F0 m 848 ls []) := by
  have hx := G.1
  have hb := G.2.1
  have hbA : ¬ (fun q : Nat => s.heap.size ≤ q) b := Nat.not_le.mpr hbl
  obtain ⟨r, st1, st2, h1, h2, hI2⟩ := sm st hI
  refine lv_aload_n hx hb dL_law_848 rfl (lv_at hl 1 rfl) ?_
  refine lw_callI G (o := 0) (As := (fun _ => [])) hP hS hl.1 sw_cl5 rfl ws_X5_most (by decide) (c_X5_most F st h1) rfl rfl (Nat.le_of_ble_eq_true rfl) wm_L_106 dL_law_849 (fun H lcs hP hS => ?_)
  refine lv_aload_n hx hb dL_law_852 rfl (lv_at hl 2 rfl) ?_
  refine lw_callI G (o := 63) (As := (fun _ => [])) hP hS hl.1 sw_cl6 rfl ws_X6_most (by decide) (c_X6_most F st1 h2) rfl rfl (Nat.le_of_ble_eq_true rfl) wm_L_109 dL_law_853 (fun H lcs hP hS => ?_)
  exact lv_icmp_eq (tgt := 1393) hx hb dL_law_856 (by decide) (fun _ => next st2 H lcs hI2 hP hS) (fun q => absurd rfl q)
set_option maxHeartbeats 4000000 in
theorem lw_case_23 {p : Program} {l : Launch} {e : Env} {s : State} {m : MethodId} {below : List Frame} {meth : Method} {c : Code} {g : sw_G} {Q : State → Prop} {b L : Nat} {xs : Nat → Int32} {I : sw_St → Prop} {F : Nat} (sm : sm_23 I F) (G : lw_G p s m c b g) (hX : va_X b L xs s s.heap) (hbl : b < s.heap.size) {x3 : Int32} (hb1 : vp_in (x3 + 1) L) (hb2 : vp_in (x3 + 2) L) (hb3 : vp_in (x3 + 3) L) (hb4 : vp_in (x3 + 4) L) (hb5 : vp_in (x3 + 5) L) {st : sw_St} (hI : I st) {H : Heap} {lcs : List Loc} {ls : Array Slot} (hP : va_P g.2.1 vwCl (sw_W g st) H) (hS : va_S (fun q : Nat => s.heap.size ≤ q) s.heap H lcs) (hl : lv_has ls 4 [(0, .ref b), (1, .ref (g.1 0)), (2, .ref (g.1 63)), (3, .int x3)])
    (next : ∀ (st2 : sw_St) (H : Heap) (lcs : List Loc), I st2 → va_P g.2.1 vwCl (sw_W g st2) H → va_S (fun q : Nat => s.heap.size ≤ q) s.heap H lcs → W p l e room_1 s m #[Value.ref b] below meth c H lcs 77 5047 Q (F0 m 1393 ls [])) : W p l e room_1 s m #[Value.ref b] below meth c H lcs 77 5047 Q (F0 m 861 ls []) := by
  have hx := G.1
  have hb := G.2.1
  have hbA : ¬ (fun q : Nat => s.heap.size ≤ q) b := Nat.not_le.mpr hbl
  obtain ⟨r, st1, st2, h1, h2, hI2⟩ := sm (xs (x3 + 1).toNatClampNeg) st hI
  refine lv_aload_n hx hb dL_law_861 rfl (lv_at hl 1 rfl) ?_
  refine lv_aload_n hx hb dL_law_862 rfl (lv_at hl 0 rfl) ?_
  refine lv_iload_n hx hb dL_law_863 rfl (lv_at hl 3 rfl) ?_
  refine lv_iconst (v := 1) hx hb dL_law_864 (by decide) ?_
  refine lv_iadd hx hb dL_law_865 ?_
  refine va_sld hx hb hX hbl hbA hS hb1 dL_law_866 ?_
  refine lw_callI G (o := 0) (As := (fun _ => [.int (xs (x3 + 1).toNatClampNeg)])) hP hS hl.1 sw_cl5 rfl ws_X5_order (by decide) (c_X5_order F (xs (x3 + 1).toNatClampNeg) st h1) rfl rfl (Nat.le_of_ble_eq_true rfl) wm_L_110 dL_law_867 (fun H lcs hP hS => ?_)
  refine lv_aload_n hx hb dL_law_870 rfl (lv_at hl 2 rfl) ?_
  refine lv_aload_n hx hb dL_law_871 rfl (lv_at hl 0 rfl) ?_
  refine lv_iload_n hx hb dL_law_872 rfl (lv_at hl 3 rfl) ?_
  refine lv_iconst (v := 1) hx hb dL_law_873 (by decide) ?_
  refine lv_iadd hx hb dL_law_874 ?_
  refine va_sld hx hb hX hbl hbA hS hb1 dL_law_875 ?_
  refine lw_callI G (o := 63) (As := (fun _ => [.int (xs (x3 + 1).toNatClampNeg)])) hP hS hl.1 sw_cl6 rfl ws_X6_order (by decide) (c_X6_order F (xs (x3 + 1).toNatClampNeg) st1 h2) rfl rfl (Nat.le_of_ble_eq_true rfl) wm_L_113 dL_law_876 (fun H lcs hP hS => ?_)
  exact lv_icmp_eq (tgt := 1393) hx hb dL_law_879 (by decide) (fun _ => next st2 H lcs hI2 hP hS) (fun q => absurd rfl q)
set_option maxHeartbeats 4000000 in
theorem lw_case_24 {p : Program} {l : Launch} {e : Env} {s : State} {m : MethodId} {below : List Frame} {meth : Method} {c : Code} {g : sw_G} {Q : State → Prop} {b L : Nat} {xs : Nat → Int32} {I : sw_St → Prop} {F : Nat} (sm : sm_24 I F) (G : lw_G p s m c b g) (hX : va_X b L xs s s.heap) (hbl : b < s.heap.size) {x3 : Int32} (hb1 : vp_in (x3 + 1) L) (hb2 : vp_in (x3 + 2) L) (hb3 : vp_in (x3 + 3) L) (hb4 : vp_in (x3 + 4) L) (hb5 : vp_in (x3 + 5) L) {st : sw_St} (hI : I st) {H : Heap} {lcs : List Loc} {ls : Array Slot} (hP : va_P g.2.1 vwCl (sw_W g st) H) (hS : va_S (fun q : Nat => s.heap.size ≤ q) s.heap H lcs) (hl : lv_has ls 4 [(0, .ref b), (1, .ref (g.1 0)), (2, .ref (g.1 63)), (3, .int x3)])
    (next : ∀ (st2 : sw_St) (H : Heap) (lcs : List Loc), I st2 → va_P g.2.1 vwCl (sw_W g st2) H → va_S (fun q : Nat => s.heap.size ≤ q) s.heap H lcs → W p l e room_1 s m #[Value.ref b] below meth c H lcs 77 5047 Q (F0 m 1393 ls [])) : W p l e room_1 s m #[Value.ref b] below meth c H lcs 77 5047 Q (F0 m 884 ls []) := by
  have hx := G.1
  have hb := G.2.1
  have hbA : ¬ (fun q : Nat => s.heap.size ≤ q) b := Nat.not_le.mpr hbl
  obtain ⟨r, st1, st2, h1, h2, hI2⟩ := sm (xs (x3 + 1).toNatClampNeg) (xs (x3 + 2).toNatClampNeg) st hI
  refine lv_aload_n hx hb dL_law_884 rfl (lv_at hl 1 rfl) ?_
  refine lv_aload_n hx hb dL_law_885 rfl (lv_at hl 0 rfl) ?_
  refine lv_iload_n hx hb dL_law_886 rfl (lv_at hl 3 rfl) ?_
  refine lv_iconst (v := 1) hx hb dL_law_887 (by decide) ?_
  refine lv_iadd hx hb dL_law_888 ?_
  refine va_sld hx hb hX hbl hbA hS hb1 dL_law_889 ?_
  refine lv_aload_n hx hb dL_law_890 rfl (lv_at hl 0 rfl) ?_
  refine lv_iload_n hx hb dL_law_891 rfl (lv_at hl 3 rfl) ?_
  refine lv_iconst (v := 2) hx hb dL_law_892 (by decide) ?_
  refine lv_iadd hx hb dL_law_893 ?_
  refine va_sld hx hb hX hbl hbA hS hb2 dL_law_894 ?_
  refine lw_callI G (o := 0) (As := (fun _ => [.int (xs (x3 + 1).toNatClampNeg), .int (xs (x3 + 2).toNatClampNeg)])) hP hS hl.1 sw_cl5 rfl ws_X5_ways (by decide) (c_X5_ways F (xs (x3 + 1).toNatClampNeg) (xs (x3 + 2).toNatClampNeg) st h1) rfl rfl (Nat.le_of_ble_eq_true rfl) wm_L_114 dL_law_895 (fun H lcs hP hS => ?_)
  refine lv_aload_n hx hb dL_law_898 rfl (lv_at hl 2 rfl) ?_
  refine lv_aload_n hx hb dL_law_899 rfl (lv_at hl 0 rfl) ?_
  refine lv_iload_n hx hb dL_law_900 rfl (lv_at hl 3 rfl) ?_
  refine lv_iconst (v := 1) hx hb dL_law_901 (by decide) ?_
  refine lv_iadd hx hb dL_law_902 ?_
  refine va_sld hx hb hX hbl hbA hS hb1 dL_law_903 ?_
  refine lv_aload_n hx hb dL_law_904 rfl (lv_at hl 0 rfl) ?_
  refine lv_iload_n hx hb dL_law_905 rfl (lv_at hl 3 rfl) ?_
  refine lv_iconst (v := 2) hx hb dL_law_906 (by decide) ?_
  refine lv_iadd hx hb dL_law_907 ?_
  refine va_sld hx hb hX hbl hbA hS hb2 dL_law_908 ?_
  refine lw_callI G (o := 63) (As := (fun _ => [.int (xs (x3 + 1).toNatClampNeg), .int (xs (x3 + 2).toNatClampNeg)])) hP hS hl.1 sw_cl6 rfl ws_X6_ways (by decide) (c_X6_ways F (xs (x3 + 1).toNatClampNeg) (xs (x3 + 2).toNatClampNeg) st1 h2) rfl rfl (Nat.le_of_ble_eq_true rfl) wm_L_117 dL_law_909 (fun H lcs hP hS => ?_)
  exact lv_icmp_eq (tgt := 1393) hx hb dL_law_912 (by decide) (fun _ => next st2 H lcs hI2 hP hS) (fun q => absurd rfl q)
set_option maxHeartbeats 4000000 in
theorem lw_case_25 {p : Program} {l : Launch} {e : Env} {s : State} {m : MethodId} {below : List Frame} {meth : Method} {c : Code} {g : sw_G} {Q : State → Prop} {b L : Nat} {xs : Nat → Int32} {I : sw_St → Prop} {F : Nat} (sm : sm_25 I F) (G : lw_G p s m c b g) (hX : va_X b L xs s s.heap) (hbl : b < s.heap.size) {x3 : Int32} (hb1 : vp_in (x3 + 1) L) (hb2 : vp_in (x3 + 2) L) (hb3 : vp_in (x3 + 3) L) (hb4 : vp_in (x3 + 4) L) (hb5 : vp_in (x3 + 5) L) {st : sw_St} (hI : I st) {H : Heap} {lcs : List Loc} {ls : Array Slot} (hP : va_P g.2.1 vwCl (sw_W g st) H) (hS : va_S (fun q : Nat => s.heap.size ≤ q) s.heap H lcs) (hl : lv_has ls 4 [(0, .ref b), (1, .ref (g.1 0)), (2, .ref (g.1 63)), (3, .int x3)])
    (next : ∀ (st2 : sw_St) (H : Heap) (lcs : List Loc), I st2 → va_P g.2.1 vwCl (sw_W g st2) H → va_S (fun q : Nat => s.heap.size ≤ q) s.heap H lcs → W p l e room_1 s m #[Value.ref b] below meth c H lcs 77 5047 Q (F0 m 1393 ls [])) : W p l e room_1 s m #[Value.ref b] below meth c H lcs 77 5047 Q (F0 m 917 ls []) := by
  have hx := G.1
  have hb := G.2.1
  have hbA : ¬ (fun q : Nat => s.heap.size ≤ q) b := Nat.not_le.mpr hbl
  obtain ⟨r, st1, st2, h1, h2, hI2⟩ := sm (xs (x3 + 1).toNatClampNeg) (xs (x3 + 2).toNatClampNeg) (xs (x3 + 3).toNatClampNeg) st hI
  refine lv_aload_n hx hb dL_law_917 rfl (lv_at hl 1 rfl) ?_
  refine lv_aload_n hx hb dL_law_918 rfl (lv_at hl 0 rfl) ?_
  refine lv_iload_n hx hb dL_law_919 rfl (lv_at hl 3 rfl) ?_
  refine lv_iconst (v := 1) hx hb dL_law_920 (by decide) ?_
  refine lv_iadd hx hb dL_law_921 ?_
  refine va_sld hx hb hX hbl hbA hS hb1 dL_law_922 ?_
  refine lv_aload_n hx hb dL_law_923 rfl (lv_at hl 0 rfl) ?_
  refine lv_iload_n hx hb dL_law_924 rfl (lv_at hl 3 rfl) ?_
  refine lv_iconst (v := 2) hx hb dL_law_925 (by decide) ?_
  refine lv_iadd hx hb dL_law_926 ?_
  refine va_sld hx hb hX hbl hbA hS hb2 dL_law_927 ?_
  refine lv_aload_n hx hb dL_law_928 rfl (lv_at hl 0 rfl) ?_
  refine lv_iload_n hx hb dL_law_929 rfl (lv_at hl 3 rfl) ?_
  refine lv_iconst (v := 3) hx hb dL_law_930 (by decide) ?_
  refine lv_iadd hx hb dL_law_931 ?_
  refine va_sld hx hb hX hbl hbA hS hb3 dL_law_932 ?_
  refine lw_callI G (o := 0) (As := (fun _ => [.int (xs (x3 + 1).toNatClampNeg), .int (xs (x3 + 2).toNatClampNeg), .int (xs (x3 + 3).toNatClampNeg)])) hP hS hl.1 sw_cl5 rfl ws_X5_bread (by decide) (c_X5_bread F (xs (x3 + 1).toNatClampNeg) (xs (x3 + 2).toNatClampNeg) (xs (x3 + 3).toNatClampNeg) st h1) rfl rfl (Nat.le_of_ble_eq_true rfl) wm_L_118 dL_law_933 (fun H lcs hP hS => ?_)
  refine lv_aload_n hx hb dL_law_936 rfl (lv_at hl 2 rfl) ?_
  refine lv_aload_n hx hb dL_law_937 rfl (lv_at hl 0 rfl) ?_
  refine lv_iload_n hx hb dL_law_938 rfl (lv_at hl 3 rfl) ?_
  refine lv_iconst (v := 1) hx hb dL_law_939 (by decide) ?_
  refine lv_iadd hx hb dL_law_940 ?_
  refine va_sld hx hb hX hbl hbA hS hb1 dL_law_941 ?_
  refine lv_aload_n hx hb dL_law_942 rfl (lv_at hl 0 rfl) ?_
  refine lv_iload_n hx hb dL_law_943 rfl (lv_at hl 3 rfl) ?_
  refine lv_iconst (v := 2) hx hb dL_law_944 (by decide) ?_
  refine lv_iadd hx hb dL_law_945 ?_
  refine va_sld hx hb hX hbl hbA hS hb2 dL_law_946 ?_
  refine lv_aload_n hx hb dL_law_947 rfl (lv_at hl 0 rfl) ?_
  refine lv_iload_n hx hb dL_law_948 rfl (lv_at hl 3 rfl) ?_
  refine lv_iconst (v := 3) hx hb dL_law_949 (by decide) ?_
  refine lv_iadd hx hb dL_law_950 ?_
  refine va_sld hx hb hX hbl hbA hS hb3 dL_law_951 ?_
  refine lw_callI G (o := 63) (As := (fun _ => [.int (xs (x3 + 1).toNatClampNeg), .int (xs (x3 + 2).toNatClampNeg), .int (xs (x3 + 3).toNatClampNeg)])) hP hS hl.1 sw_cl6 rfl ws_X6_bread (by decide) (c_X6_bread F (xs (x3 + 1).toNatClampNeg) (xs (x3 + 2).toNatClampNeg) (xs (x3 + 3).toNatClampNeg) st1 h2) rfl rfl (Nat.le_of_ble_eq_true rfl) wm_L_121 dL_law_952 (fun H lcs hP hS => ?_)
  exact lv_icmp_eq (tgt := 1393) hx hb dL_law_955 (by decide) (fun _ => next st2 H lcs hI2 hP hS) (fun q => absurd rfl q)
set_option maxHeartbeats 4000000 in
theorem lw_case_26 {p : Program} {l : Launch} {e : Env} {s : State} {m : MethodId} {below : List Frame} {meth : Method} {c : Code} {g : sw_G} {Q : State → Prop} {b L : Nat} {xs : Nat → Int32} {I : sw_St → Prop} {F : Nat} (sm : sm_26 I F) (G : lw_G p s m c b g) (hX : va_X b L xs s s.heap) (hbl : b < s.heap.size) {x3 : Int32} (hb1 : vp_in (x3 + 1) L) (hb2 : vp_in (x3 + 2) L) (hb3 : vp_in (x3 + 3) L) (hb4 : vp_in (x3 + 4) L) (hb5 : vp_in (x3 + 5) L) {st : sw_St} (hI : I st) {H : Heap} {lcs : List Loc} {ls : Array Slot} (hP : va_P g.2.1 vwCl (sw_W g st) H) (hS : va_S (fun q : Nat => s.heap.size ≤ q) s.heap H lcs) (hl : lv_has ls 4 [(0, .ref b), (1, .ref (g.1 0)), (2, .ref (g.1 63)), (3, .int x3)])
    (next : ∀ (st2 : sw_St) (H : Heap) (lcs : List Loc), I st2 → va_P g.2.1 vwCl (sw_W g st2) H → va_S (fun q : Nat => s.heap.size ≤ q) s.heap H lcs → W p l e room_1 s m #[Value.ref b] below meth c H lcs 77 5047 Q (F0 m 1393 ls [])) : W p l e room_1 s m #[Value.ref b] below meth c H lcs 77 5047 Q (F0 m 960 ls []) := by
  have hx := G.1
  have hb := G.2.1
  have hbA : ¬ (fun q : Nat => s.heap.size ≤ q) b := Nat.not_le.mpr hbl
  obtain ⟨r, st1, st2, h1, h2, hI2⟩ := sm (xs (x3 + 1).toNatClampNeg) st hI
  refine lv_aload_n hx hb dL_law_960 rfl (lv_at hl 1 rfl) ?_
  refine lv_aload_n hx hb dL_law_961 rfl (lv_at hl 0 rfl) ?_
  refine lv_iload_n hx hb dL_law_962 rfl (lv_at hl 3 rfl) ?_
  refine lv_iconst (v := 1) hx hb dL_law_963 (by decide) ?_
  refine lv_iadd hx hb dL_law_964 ?_
  refine va_sld hx hb hX hbl hbA hS hb1 dL_law_965 ?_
  refine lw_callI G (o := 0) (As := (fun _ => [.int (xs (x3 + 1).toNatClampNeg)])) hP hS hl.1 sw_cl5 rfl ws_X5_goes (by decide) (c_X5_goes F (xs (x3 + 1).toNatClampNeg) st h1) rfl rfl (Nat.le_of_ble_eq_true rfl) wm_L_122 dL_law_966 (fun H lcs hP hS => ?_)
  refine lv_aload_n hx hb dL_law_969 rfl (lv_at hl 2 rfl) ?_
  refine lv_aload_n hx hb dL_law_970 rfl (lv_at hl 0 rfl) ?_
  refine lv_iload_n hx hb dL_law_971 rfl (lv_at hl 3 rfl) ?_
  refine lv_iconst (v := 1) hx hb dL_law_972 (by decide) ?_
  refine lv_iadd hx hb dL_law_973 ?_
  refine va_sld hx hb hX hbl hbA hS hb1 dL_law_974 ?_
  refine lw_callI G (o := 63) (As := (fun _ => [.int (xs (x3 + 1).toNatClampNeg)])) hP hS hl.1 sw_cl6 rfl ws_X6_goes (by decide) (c_X6_goes F (xs (x3 + 1).toNatClampNeg) st1 h2) rfl rfl (Nat.le_of_ble_eq_true rfl) wm_L_125 dL_law_975 (fun H lcs hP hS => ?_)
  exact lv_icmp_eq (tgt := 1393) hx hb dL_law_978 (by decide) (fun _ => next st2 H lcs hI2 hP hS) (fun q => absurd rfl q)
set_option maxHeartbeats 4000000 in
theorem lw_case_27 {p : Program} {l : Launch} {e : Env} {s : State} {m : MethodId} {below : List Frame} {meth : Method} {c : Code} {g : sw_G} {Q : State → Prop} {b L : Nat} {xs : Nat → Int32} {I : sw_St → Prop} {F : Nat} (sm : sm_27 I F) (G : lw_G p s m c b g) (hX : va_X b L xs s s.heap) (hbl : b < s.heap.size) {x3 : Int32} (hb1 : vp_in (x3 + 1) L) (hb2 : vp_in (x3 + 2) L) (hb3 : vp_in (x3 + 3) L) (hb4 : vp_in (x3 + 4) L) (hb5 : vp_in (x3 + 5) L) {st : sw_St} (hI : I st) {H : Heap} {lcs : List Loc} {ls : Array Slot} (hP : va_P g.2.1 vwCl (sw_W g st) H) (hS : va_S (fun q : Nat => s.heap.size ≤ q) s.heap H lcs) (hl : lv_has ls 4 [(0, .ref b), (1, .ref (g.1 0)), (2, .ref (g.1 63)), (3, .int x3)])
    (next : ∀ (st2 : sw_St) (H : Heap) (lcs : List Loc), I st2 → va_P g.2.1 vwCl (sw_W g st2) H → va_S (fun q : Nat => s.heap.size ≤ q) s.heap H lcs → W p l e room_1 s m #[Value.ref b] below meth c H lcs 77 5047 Q (F0 m 1393 ls [])) : W p l e room_1 s m #[Value.ref b] below meth c H lcs 77 5047 Q (F0 m 983 ls []) := by
  have hx := G.1
  have hb := G.2.1
  have hbA : ¬ (fun q : Nat => s.heap.size ≤ q) b := Nat.not_le.mpr hbl
  obtain ⟨r, st1, st2, h1, h2, hI2⟩ := sm (xs (x3 + 1).toNatClampNeg) st hI
  refine lv_aload_n hx hb dL_law_983 rfl (lv_at hl 1 rfl) ?_
  refine lv_aload_n hx hb dL_law_984 rfl (lv_at hl 0 rfl) ?_
  refine lv_iload_n hx hb dL_law_985 rfl (lv_at hl 3 rfl) ?_
  refine lv_iconst (v := 1) hx hb dL_law_986 (by decide) ?_
  refine lv_iadd hx hb dL_law_987 ?_
  refine va_sld hx hb hX hbl hbA hS hb1 dL_law_988 ?_
  refine lw_callI G (o := 0) (As := (fun _ => [.int (xs (x3 + 1).toNatClampNeg)])) hP hS hl.1 sw_cl5 rfl ws_X5_behind (by decide) (c_X5_behind F (xs (x3 + 1).toNatClampNeg) st h1) rfl rfl (Nat.le_of_ble_eq_true rfl) wm_L_126 dL_law_989 (fun H lcs hP hS => ?_)
  refine lv_aload_n hx hb dL_law_992 rfl (lv_at hl 2 rfl) ?_
  refine lv_aload_n hx hb dL_law_993 rfl (lv_at hl 0 rfl) ?_
  refine lv_iload_n hx hb dL_law_994 rfl (lv_at hl 3 rfl) ?_
  refine lv_iconst (v := 1) hx hb dL_law_995 (by decide) ?_
  refine lv_iadd hx hb dL_law_996 ?_
  refine va_sld hx hb hX hbl hbA hS hb1 dL_law_997 ?_
  refine lw_callI G (o := 63) (As := (fun _ => [.int (xs (x3 + 1).toNatClampNeg)])) hP hS hl.1 sw_cl6 rfl ws_X6_behind (by decide) (c_X6_behind F (xs (x3 + 1).toNatClampNeg) st1 h2) rfl rfl (Nat.le_of_ble_eq_true rfl) wm_L_129 dL_law_998 (fun H lcs hP hS => ?_)
  exact lv_icmp_eq (tgt := 1393) hx hb dL_law_1001 (by decide) (fun _ => next st2 H lcs hI2 hP hS) (fun q => absurd rfl q)
set_option maxHeartbeats 4000000 in
theorem lw_case_28 {p : Program} {l : Launch} {e : Env} {s : State} {m : MethodId} {below : List Frame} {meth : Method} {c : Code} {g : sw_G} {Q : State → Prop} {b L : Nat} {xs : Nat → Int32} {I : sw_St → Prop} {F : Nat} (sm : sm_28 I F) (G : lw_G p s m c b g) (hX : va_X b L xs s s.heap) (hbl : b < s.heap.size) {x3 : Int32} (hb1 : vp_in (x3 + 1) L) (hb2 : vp_in (x3 + 2) L) (hb3 : vp_in (x3 + 3) L) (hb4 : vp_in (x3 + 4) L) (hb5 : vp_in (x3 + 5) L) {st : sw_St} (hI : I st) {H : Heap} {lcs : List Loc} {ls : Array Slot} (hP : va_P g.2.1 vwCl (sw_W g st) H) (hS : va_S (fun q : Nat => s.heap.size ≤ q) s.heap H lcs) (hl : lv_has ls 4 [(0, .ref b), (1, .ref (g.1 0)), (2, .ref (g.1 63)), (3, .int x3)])
    (next : ∀ (st2 : sw_St) (H : Heap) (lcs : List Loc), I st2 → va_P g.2.1 vwCl (sw_W g st2) H → va_S (fun q : Nat => s.heap.size ≤ q) s.heap H lcs → W p l e room_1 s m #[Value.ref b] below meth c H lcs 77 5047 Q (F0 m 1393 ls [])) : W p l e room_1 s m #[Value.ref b] below meth c H lcs 77 5047 Q (F0 m 1006 ls []) := by
  have hx := G.1
  have hb := G.2.1
  have hbA : ¬ (fun q : Nat => s.heap.size ≤ q) b := Nat.not_le.mpr hbl
  obtain ⟨r, st1, st2, h1, h2, hI2⟩ := sm (xs (x3 + 1).toNatClampNeg) st hI
  refine lv_aload_n hx hb dL_law_1006 rfl (lv_at hl 1 rfl) ?_
  refine lv_aload_n hx hb dL_law_1007 rfl (lv_at hl 0 rfl) ?_
  refine lv_iload_n hx hb dL_law_1008 rfl (lv_at hl 3 rfl) ?_
  refine lv_iconst (v := 1) hx hb dL_law_1009 (by decide) ?_
  refine lv_iadd hx hb dL_law_1010 ?_
  refine va_sld hx hb hX hbl hbA hS hb1 dL_law_1011 ?_
  refine lw_callI G (o := 0) (As := (fun _ => [.int (xs (x3 + 1).toNatClampNeg)])) hP hS hl.1 sw_cl5 rfl ws_X5_fits (by decide) (c_X5_fits F (xs (x3 + 1).toNatClampNeg) st h1) rfl rfl (Nat.le_of_ble_eq_true rfl) wm_L_130 dL_law_1012 (fun H lcs hP hS => ?_)
  refine lv_aload_n hx hb dL_law_1015 rfl (lv_at hl 2 rfl) ?_
  refine lv_aload_n hx hb dL_law_1016 rfl (lv_at hl 0 rfl) ?_
  refine lv_iload_n hx hb dL_law_1017 rfl (lv_at hl 3 rfl) ?_
  refine lv_iconst (v := 1) hx hb dL_law_1018 (by decide) ?_
  refine lv_iadd hx hb dL_law_1019 ?_
  refine va_sld hx hb hX hbl hbA hS hb1 dL_law_1020 ?_
  refine lw_callI G (o := 63) (As := (fun _ => [.int (xs (x3 + 1).toNatClampNeg)])) hP hS hl.1 sw_cl6 rfl ws_X6_fits (by decide) (c_X6_fits F (xs (x3 + 1).toNatClampNeg) st1 h2) rfl rfl (Nat.le_of_ble_eq_true rfl) wm_L_133 dL_law_1021 (fun H lcs hP hS => ?_)
  exact lv_icmp_eq (tgt := 1393) hx hb dL_law_1024 (by decide) (fun _ => next st2 H lcs hI2 hP hS) (fun q => absurd rfl q)
set_option maxHeartbeats 4000000 in
theorem lw_case_29 {p : Program} {l : Launch} {e : Env} {s : State} {m : MethodId} {below : List Frame} {meth : Method} {c : Code} {g : sw_G} {Q : State → Prop} {b L : Nat} {xs : Nat → Int32} {I : sw_St → Prop} {F : Nat} (sm : sm_29 I F) (G : lw_G p s m c b g) (hX : va_X b L xs s s.heap) (hbl : b < s.heap.size) {x3 : Int32} (hb1 : vp_in (x3 + 1) L) (hb2 : vp_in (x3 + 2) L) (hb3 : vp_in (x3 + 3) L) (hb4 : vp_in (x3 + 4) L) (hb5 : vp_in (x3 + 5) L) {st : sw_St} (hI : I st) {H : Heap} {lcs : List Loc} {ls : Array Slot} (hP : va_P g.2.1 vwCl (sw_W g st) H) (hS : va_S (fun q : Nat => s.heap.size ≤ q) s.heap H lcs) (hl : lv_has ls 4 [(0, .ref b), (1, .ref (g.1 0)), (2, .ref (g.1 63)), (3, .int x3)])
    (next : ∀ (st2 : sw_St) (H : Heap) (lcs : List Loc), I st2 → va_P g.2.1 vwCl (sw_W g st2) H → va_S (fun q : Nat => s.heap.size ≤ q) s.heap H lcs → W p l e room_1 s m #[Value.ref b] below meth c H lcs 77 5047 Q (F0 m 1393 ls [])) : W p l e room_1 s m #[Value.ref b] below meth c H lcs 77 5047 Q (F0 m 1029 ls []) := by
  have hx := G.1
  have hb := G.2.1
  have hbA : ¬ (fun q : Nat => s.heap.size ≤ q) b := Nat.not_le.mpr hbl
  obtain ⟨r, st1, st2, h1, h2, hI2⟩ := sm (xs (x3 + 1).toNatClampNeg) st hI
  refine lv_aload_n hx hb dL_law_1029 rfl (lv_at hl 1 rfl) ?_
  refine lv_aload_n hx hb dL_law_1030 rfl (lv_at hl 0 rfl) ?_
  refine lv_iload_n hx hb dL_law_1031 rfl (lv_at hl 3 rfl) ?_
  refine lv_iconst (v := 1) hx hb dL_law_1032 (by decide) ?_
  refine lv_iadd hx hb dL_law_1033 ?_
  refine va_sld hx hb hX hbl hbA hS hb1 dL_law_1034 ?_
  refine lw_callI G (o := 0) (As := (fun _ => [.int (xs (x3 + 1).toNatClampNeg)])) hP hS hl.1 sw_cl5 rfl ws_X5_sure (by decide) (c_X5_sure F (xs (x3 + 1).toNatClampNeg) st h1) rfl rfl (Nat.le_of_ble_eq_true rfl) wm_L_134 dL_law_1035 (fun H lcs hP hS => ?_)
  refine lv_aload_n hx hb dL_law_1038 rfl (lv_at hl 2 rfl) ?_
  refine lv_aload_n hx hb dL_law_1039 rfl (lv_at hl 0 rfl) ?_
  refine lv_iload_n hx hb dL_law_1040 rfl (lv_at hl 3 rfl) ?_
  refine lv_iconst (v := 1) hx hb dL_law_1041 (by decide) ?_
  refine lv_iadd hx hb dL_law_1042 ?_
  refine va_sld hx hb hX hbl hbA hS hb1 dL_law_1043 ?_
  refine lw_callI G (o := 63) (As := (fun _ => [.int (xs (x3 + 1).toNatClampNeg)])) hP hS hl.1 sw_cl6 rfl ws_X6_sure (by decide) (c_X6_sure F (xs (x3 + 1).toNatClampNeg) st1 h2) rfl rfl (Nat.le_of_ble_eq_true rfl) wm_L_137 dL_law_1044 (fun H lcs hP hS => ?_)
  exact lv_icmp_eq (tgt := 1393) hx hb dL_law_1047 (by decide) (fun _ => next st2 H lcs hI2 hP hS) (fun q => absurd rfl q)
set_option maxHeartbeats 4000000 in
theorem lw_case_30 {p : Program} {l : Launch} {e : Env} {s : State} {m : MethodId} {below : List Frame} {meth : Method} {c : Code} {g : sw_G} {Q : State → Prop} {b L : Nat} {xs : Nat → Int32} {I : sw_St → Prop} {F : Nat} (sm : sm_30 I F) (G : lw_G p s m c b g) (hX : va_X b L xs s s.heap) (hbl : b < s.heap.size) {x3 : Int32} (hb1 : vp_in (x3 + 1) L) (hb2 : vp_in (x3 + 2) L) (hb3 : vp_in (x3 + 3) L) (hb4 : vp_in (x3 + 4) L) (hb5 : vp_in (x3 + 5) L) {st : sw_St} (hI : I st) {H : Heap} {lcs : List Loc} {ls : Array Slot} (hP : va_P g.2.1 vwCl (sw_W g st) H) (hS : va_S (fun q : Nat => s.heap.size ≤ q) s.heap H lcs) (hl : lv_has ls 4 [(0, .ref b), (1, .ref (g.1 0)), (2, .ref (g.1 63)), (3, .int x3)])
    (next : ∀ (st2 : sw_St) (H : Heap) (lcs : List Loc), I st2 → va_P g.2.1 vwCl (sw_W g st2) H → va_S (fun q : Nat => s.heap.size ≤ q) s.heap H lcs → W p l e room_1 s m #[Value.ref b] below meth c H lcs 77 5047 Q (F0 m 1393 ls [])) : W p l e room_1 s m #[Value.ref b] below meth c H lcs 77 5047 Q (F0 m 1052 ls []) := by
  have hx := G.1
  have hb := G.2.1
  have hbA : ¬ (fun q : Nat => s.heap.size ≤ q) b := Nat.not_le.mpr hbl
  obtain ⟨r, st1, st2, h1, h2, hI2⟩ := sm (xs (x3 + 1).toNatClampNeg) st hI
  refine lv_aload_n hx hb dL_law_1052 rfl (lv_at hl 1 rfl) ?_
  refine lv_aload_n hx hb dL_law_1053 rfl (lv_at hl 0 rfl) ?_
  refine lv_iload_n hx hb dL_law_1054 rfl (lv_at hl 3 rfl) ?_
  refine lv_iconst (v := 1) hx hb dL_law_1055 (by decide) ?_
  refine lv_iadd hx hb dL_law_1056 ?_
  refine va_sld hx hb hX hbl hbA hS hb1 dL_law_1057 ?_
  refine lw_callI G (o := 0) (As := (fun _ => [.int (xs (x3 + 1).toNatClampNeg)])) hP hS hl.1 sw_cl5 rfl ws_X5_ask (by decide) (c_X5_ask F (xs (x3 + 1).toNatClampNeg) st h1) rfl rfl (Nat.le_of_ble_eq_true rfl) wm_L_138 dL_law_1058 (fun H lcs hP hS => ?_)
  refine lv_aload_n hx hb dL_law_1061 rfl (lv_at hl 2 rfl) ?_
  refine lv_aload_n hx hb dL_law_1062 rfl (lv_at hl 0 rfl) ?_
  refine lv_iload_n hx hb dL_law_1063 rfl (lv_at hl 3 rfl) ?_
  refine lv_iconst (v := 1) hx hb dL_law_1064 (by decide) ?_
  refine lv_iadd hx hb dL_law_1065 ?_
  refine va_sld hx hb hX hbl hbA hS hb1 dL_law_1066 ?_
  refine lw_callI G (o := 63) (As := (fun _ => [.int (xs (x3 + 1).toNatClampNeg)])) hP hS hl.1 sw_cl6 rfl ws_X6_ask (by decide) (c_X6_ask F (xs (x3 + 1).toNatClampNeg) st1 h2) rfl rfl (Nat.le_of_ble_eq_true rfl) wm_L_141 dL_law_1067 (fun H lcs hP hS => ?_)
  exact lv_icmp_eq (tgt := 1393) hx hb dL_law_1070 (by decide) (fun _ => next st2 H lcs hI2 hP hS) (fun q => absurd rfl q)
set_option maxHeartbeats 4000000 in
theorem lw_case_31 {p : Program} {l : Launch} {e : Env} {s : State} {m : MethodId} {below : List Frame} {meth : Method} {c : Code} {g : sw_G} {Q : State → Prop} {b L : Nat} {xs : Nat → Int32} {I : sw_St → Prop} {F : Nat} (sm : sm_31 I F) (G : lw_G p s m c b g) (hX : va_X b L xs s s.heap) (hbl : b < s.heap.size) {x3 : Int32} (hb1 : vp_in (x3 + 1) L) (hb2 : vp_in (x3 + 2) L) (hb3 : vp_in (x3 + 3) L) (hb4 : vp_in (x3 + 4) L) (hb5 : vp_in (x3 + 5) L) {st : sw_St} (hI : I st) {H : Heap} {lcs : List Loc} {ls : Array Slot} (hP : va_P g.2.1 vwCl (sw_W g st) H) (hS : va_S (fun q : Nat => s.heap.size ≤ q) s.heap H lcs) (hl : lv_has ls 4 [(0, .ref b), (1, .ref (g.1 0)), (2, .ref (g.1 63)), (3, .int x3)])
    (next : ∀ (st2 : sw_St) (H : Heap) (lcs : List Loc), I st2 → va_P g.2.1 vwCl (sw_W g st2) H → va_S (fun q : Nat => s.heap.size ≤ q) s.heap H lcs → W p l e room_1 s m #[Value.ref b] below meth c H lcs 77 5047 Q (F0 m 1393 ls [])) : W p l e room_1 s m #[Value.ref b] below meth c H lcs 77 5047 Q (F0 m 1075 ls []) := by
  have hx := G.1
  have hb := G.2.1
  have hbA : ¬ (fun q : Nat => s.heap.size ≤ q) b := Nat.not_le.mpr hbl
  obtain ⟨r, st1, st2, h1, h2, hI2⟩ := sm (xs (x3 + 1).toNatClampNeg) st hI
  refine lv_aload_n hx hb dL_law_1075 rfl (lv_at hl 1 rfl) ?_
  refine lv_aload_n hx hb dL_law_1076 rfl (lv_at hl 0 rfl) ?_
  refine lv_iload_n hx hb dL_law_1077 rfl (lv_at hl 3 rfl) ?_
  refine lv_iconst (v := 1) hx hb dL_law_1078 (by decide) ?_
  refine lv_iadd hx hb dL_law_1079 ?_
  refine va_sld hx hb hX hbl hbA hS hb1 dL_law_1080 ?_
  refine lw_callI G (o := 0) (As := (fun _ => [.int (xs (x3 + 1).toNatClampNeg)])) hP hS hl.1 sw_cl5 rfl ws_X5_came (by decide) (c_X5_came F (xs (x3 + 1).toNatClampNeg) st h1) rfl rfl (Nat.le_of_ble_eq_true rfl) wm_L_142 dL_law_1081 (fun H lcs hP hS => ?_)
  refine lv_aload_n hx hb dL_law_1084 rfl (lv_at hl 2 rfl) ?_
  refine lv_aload_n hx hb dL_law_1085 rfl (lv_at hl 0 rfl) ?_
  refine lv_iload_n hx hb dL_law_1086 rfl (lv_at hl 3 rfl) ?_
  refine lv_iconst (v := 1) hx hb dL_law_1087 (by decide) ?_
  refine lv_iadd hx hb dL_law_1088 ?_
  refine va_sld hx hb hX hbl hbA hS hb1 dL_law_1089 ?_
  refine lw_callI G (o := 63) (As := (fun _ => [.int (xs (x3 + 1).toNatClampNeg)])) hP hS hl.1 sw_cl6 rfl ws_X6_came (by decide) (c_X6_came F (xs (x3 + 1).toNatClampNeg) st1 h2) rfl rfl (Nat.le_of_ble_eq_true rfl) wm_L_145 dL_law_1090 (fun H lcs hP hS => ?_)
  exact lv_icmp_eq (tgt := 1393) hx hb dL_law_1093 (by decide) (fun _ => next st2 H lcs hI2 hP hS) (fun q => absurd rfl q)
set_option maxHeartbeats 4000000 in
theorem lw_case_32 {p : Program} {l : Launch} {e : Env} {s : State} {m : MethodId} {below : List Frame} {meth : Method} {c : Code} {g : sw_G} {Q : State → Prop} {b L : Nat} {xs : Nat → Int32} {I : sw_St → Prop} {F : Nat} (sm : sm_32 I F) (G : lw_G p s m c b g) (hX : va_X b L xs s s.heap) (hbl : b < s.heap.size) {x3 : Int32} (hb1 : vp_in (x3 + 1) L) (hb2 : vp_in (x3 + 2) L) (hb3 : vp_in (x3 + 3) L) (hb4 : vp_in (x3 + 4) L) (hb5 : vp_in (x3 + 5) L) {st : sw_St} (hI : I st) {H : Heap} {lcs : List Loc} {ls : Array Slot} (hP : va_P g.2.1 vwCl (sw_W g st) H) (hS : va_S (fun q : Nat => s.heap.size ≤ q) s.heap H lcs) (hl : lv_has ls 4 [(0, .ref b), (1, .ref (g.1 0)), (2, .ref (g.1 63)), (3, .int x3)])
    (next : ∀ (st2 : sw_St) (H : Heap) (lcs : List Loc), I st2 → va_P g.2.1 vwCl (sw_W g st2) H → va_S (fun q : Nat => s.heap.size ≤ q) s.heap H lcs → W p l e room_1 s m #[Value.ref b] below meth c H lcs 77 5047 Q (F0 m 1393 ls [])) : W p l e room_1 s m #[Value.ref b] below meth c H lcs 77 5047 Q (F0 m 1098 ls []) := by
  have hx := G.1
  have hb := G.2.1
  have hbA : ¬ (fun q : Nat => s.heap.size ≤ q) b := Nat.not_le.mpr hbl
  obtain ⟨r, st2, h1, h2, hI2⟩ := sm (xs (x3 + 1).toNatClampNeg) st hI
  refine lv_aload_n hx hb dL_law_1098 rfl (lv_at hl 1 rfl) ?_
  refine lv_aload_n hx hb dL_law_1099 rfl (lv_at hl 0 rfl) ?_
  refine lv_iload_n hx hb dL_law_1100 rfl (lv_at hl 3 rfl) ?_
  refine lv_iconst (v := 1) hx hb dL_law_1101 (by decide) ?_
  refine lv_iadd hx hb dL_law_1102 ?_
  refine va_sld hx hb hX hbl hbA hS hb1 dL_law_1103 ?_
  refine lw_callI G (o := 0) (As := (fun _ => [.int (xs (x3 + 1).toNatClampNeg)])) hP hS hl.1 sw_cl5 rfl ws_X5_duel (by decide) (c_X5_duel F (xs (x3 + 1).toNatClampNeg) st h1) rfl rfl (Nat.le_of_ble_eq_true rfl) wm_L_146 dL_law_1104 (fun H lcs hP hS => ?_)
  refine lv_aload_n hx hb dL_law_1107 rfl (lv_at hl 2 rfl) ?_
  refine lv_aload_n hx hb dL_law_1108 rfl (lv_at hl 0 rfl) ?_
  refine lv_iload_n hx hb dL_law_1109 rfl (lv_at hl 3 rfl) ?_
  refine lv_iconst (v := 1) hx hb dL_law_1110 (by decide) ?_
  refine lv_iadd hx hb dL_law_1111 ?_
  refine va_sld hx hb hX hbl hbA hS hb1 dL_law_1112 ?_
  refine lw_callI G (o := 63) (As := (fun _ => [.int (xs (x3 + 1).toNatClampNeg)])) hP hS hl.1 sw_cl6 rfl ws_X6_duel (by decide) (c_X6_duel F (xs (x3 + 1).toNatClampNeg) st h2) rfl rfl (Nat.le_of_ble_eq_true rfl) wm_L_149 dL_law_1113 (fun H lcs hP hS => ?_)
  exact lv_icmp_eq (tgt := 1393) hx hb dL_law_1116 (by decide) (fun _ => next st2 H lcs hI2 hP hS) (fun q => absurd rfl q)
set_option maxHeartbeats 4000000 in
theorem lw_case_33 {p : Program} {l : Launch} {e : Env} {s : State} {m : MethodId} {below : List Frame} {meth : Method} {c : Code} {g : sw_G} {Q : State → Prop} {b L : Nat} {xs : Nat → Int32} {I : sw_St → Prop} {F : Nat} (sm : sm_33 I F) (G : lw_G p s m c b g) (hX : va_X b L xs s s.heap) (hbl : b < s.heap.size) {x3 : Int32} (hb1 : vp_in (x3 + 1) L) (hb2 : vp_in (x3 + 2) L) (hb3 : vp_in (x3 + 3) L) (hb4 : vp_in (x3 + 4) L) (hb5 : vp_in (x3 + 5) L) {st : sw_St} (hI : I st) {H : Heap} {lcs : List Loc} {ls : Array Slot} (hP : va_P g.2.1 vwCl (sw_W g st) H) (hS : va_S (fun q : Nat => s.heap.size ≤ q) s.heap H lcs) (hl : lv_has ls 4 [(0, .ref b), (1, .ref (g.1 0)), (2, .ref (g.1 63)), (3, .int x3)])
    (next : ∀ (st2 : sw_St) (H : Heap) (lcs : List Loc), I st2 → va_P g.2.1 vwCl (sw_W g st2) H → va_S (fun q : Nat => s.heap.size ≤ q) s.heap H lcs → W p l e room_1 s m #[Value.ref b] below meth c H lcs 77 5047 Q (F0 m 1393 ls [])) : W p l e room_1 s m #[Value.ref b] below meth c H lcs 77 5047 Q (F0 m 1121 ls []) := by
  have hx := G.1
  have hb := G.2.1
  have hbA : ¬ (fun q : Nat => s.heap.size ≤ q) b := Nat.not_le.mpr hbl
  obtain ⟨r, st2, h1, h2, hI2⟩ := sm (xs (x3 + 1).toNatClampNeg) st hI
  refine lv_aload_n hx hb dL_law_1121 rfl (lv_at hl 1 rfl) ?_
  refine lv_aload_n hx hb dL_law_1122 rfl (lv_at hl 0 rfl) ?_
  refine lv_iload_n hx hb dL_law_1123 rfl (lv_at hl 3 rfl) ?_
  refine lv_iconst (v := 1) hx hb dL_law_1124 (by decide) ?_
  refine lv_iadd hx hb dL_law_1125 ?_
  refine va_sld hx hb hX hbl hbA hS hb1 dL_law_1126 ?_
  refine lw_callI G (o := 0) (As := (fun _ => [.int (xs (x3 + 1).toNatClampNeg)])) hP hS hl.1 sw_cl5 rfl ws_X5_shut (by decide) (c_X5_shut F (xs (x3 + 1).toNatClampNeg) st h1) rfl rfl (Nat.le_of_ble_eq_true rfl) wm_L_150 dL_law_1127 (fun H lcs hP hS => ?_)
  refine lv_aload_n hx hb dL_law_1130 rfl (lv_at hl 2 rfl) ?_
  refine lv_aload_n hx hb dL_law_1131 rfl (lv_at hl 0 rfl) ?_
  refine lv_iload_n hx hb dL_law_1132 rfl (lv_at hl 3 rfl) ?_
  refine lv_iconst (v := 1) hx hb dL_law_1133 (by decide) ?_
  refine lv_iadd hx hb dL_law_1134 ?_
  refine va_sld hx hb hX hbl hbA hS hb1 dL_law_1135 ?_
  refine lw_callI G (o := 63) (As := (fun _ => [.int (xs (x3 + 1).toNatClampNeg)])) hP hS hl.1 sw_cl6 rfl ws_X6_shut (by decide) (c_X6_shut F (xs (x3 + 1).toNatClampNeg) st h2) rfl rfl (Nat.le_of_ble_eq_true rfl) wm_L_153 dL_law_1136 (fun H lcs hP hS => ?_)
  exact lv_icmp_eq (tgt := 1393) hx hb dL_law_1139 (by decide) (fun _ => next st2 H lcs hI2 hP hS) (fun q => absurd rfl q)
set_option maxHeartbeats 4000000 in
theorem lw_case_34 {p : Program} {l : Launch} {e : Env} {s : State} {m : MethodId} {below : List Frame} {meth : Method} {c : Code} {g : sw_G} {Q : State → Prop} {b L : Nat} {xs : Nat → Int32} {I : sw_St → Prop} {F : Nat} (sm : sm_34 I F) (G : lw_G p s m c b g) (hX : va_X b L xs s s.heap) (hbl : b < s.heap.size) {x3 : Int32} (hb1 : vp_in (x3 + 1) L) (hb2 : vp_in (x3 + 2) L) (hb3 : vp_in (x3 + 3) L) (hb4 : vp_in (x3 + 4) L) (hb5 : vp_in (x3 + 5) L) {st : sw_St} (hI : I st) {H : Heap} {lcs : List Loc} {ls : Array Slot} (hP : va_P g.2.1 vwCl (sw_W g st) H) (hS : va_S (fun q : Nat => s.heap.size ≤ q) s.heap H lcs) (hl : lv_has ls 4 [(0, .ref b), (1, .ref (g.1 0)), (2, .ref (g.1 63)), (3, .int x3)])
    (next : ∀ (st2 : sw_St) (H : Heap) (lcs : List Loc), I st2 → va_P g.2.1 vwCl (sw_W g st2) H → va_S (fun q : Nat => s.heap.size ≤ q) s.heap H lcs → W p l e room_1 s m #[Value.ref b] below meth c H lcs 77 5047 Q (F0 m 1393 ls [])) : W p l e room_1 s m #[Value.ref b] below meth c H lcs 77 5047 Q (F0 m 1144 ls []) := by
  have hx := G.1
  have hb := G.2.1
  have hbA : ¬ (fun q : Nat => s.heap.size ≤ q) b := Nat.not_le.mpr hbl
  obtain ⟨r, st1, st2, h1, h2, hI2⟩ := sm (xs (x3 + 1).toNatClampNeg) st hI
  refine lv_aload_n hx hb dL_law_1144 rfl (lv_at hl 1 rfl) ?_
  refine lv_aload_n hx hb dL_law_1145 rfl (lv_at hl 0 rfl) ?_
  refine lv_iload_n hx hb dL_law_1146 rfl (lv_at hl 3 rfl) ?_
  refine lv_iconst (v := 1) hx hb dL_law_1147 (by decide) ?_
  refine lv_iadd hx hb dL_law_1148 ?_
  refine va_sld hx hb hX hbl hbA hS hb1 dL_law_1149 ?_
  refine lw_callI G (o := 0) (As := (fun _ => [.int (xs (x3 + 1).toNatClampNeg)])) hP hS hl.1 sw_cl5 rfl ws_X5_meets (by decide) (c_X5_meets F (xs (x3 + 1).toNatClampNeg) st h1) rfl rfl (Nat.le_of_ble_eq_true rfl) wm_L_154 dL_law_1150 (fun H lcs hP hS => ?_)
  refine lv_aload_n hx hb dL_law_1153 rfl (lv_at hl 2 rfl) ?_
  refine lv_aload_n hx hb dL_law_1154 rfl (lv_at hl 0 rfl) ?_
  refine lv_iload_n hx hb dL_law_1155 rfl (lv_at hl 3 rfl) ?_
  refine lv_iconst (v := 1) hx hb dL_law_1156 (by decide) ?_
  refine lv_iadd hx hb dL_law_1157 ?_
  refine va_sld hx hb hX hbl hbA hS hb1 dL_law_1158 ?_
  refine lw_callI G (o := 63) (As := (fun _ => [.int (xs (x3 + 1).toNatClampNeg)])) hP hS hl.1 sw_cl6 rfl ws_X6_meets (by decide) (c_X6_meets F (xs (x3 + 1).toNatClampNeg) st1 h2) rfl rfl (Nat.le_of_ble_eq_true rfl) wm_L_157 dL_law_1159 (fun H lcs hP hS => ?_)
  exact lv_icmp_eq (tgt := 1393) hx hb dL_law_1162 (by decide) (fun _ => next st2 H lcs hI2 hP hS) (fun q => absurd rfl q)
set_option maxHeartbeats 4000000 in
theorem lw_case_35 {p : Program} {l : Launch} {e : Env} {s : State} {m : MethodId} {below : List Frame} {meth : Method} {c : Code} {g : sw_G} {Q : State → Prop} {b L : Nat} {xs : Nat → Int32} {I : sw_St → Prop} {F : Nat} (sm : sm_35 I F) (G : lw_G p s m c b g) (hX : va_X b L xs s s.heap) (hbl : b < s.heap.size) {x3 : Int32} (hb1 : vp_in (x3 + 1) L) (hb2 : vp_in (x3 + 2) L) (hb3 : vp_in (x3 + 3) L) (hb4 : vp_in (x3 + 4) L) (hb5 : vp_in (x3 + 5) L) {st : sw_St} (hI : I st) {H : Heap} {lcs : List Loc} {ls : Array Slot} (hP : va_P g.2.1 vwCl (sw_W g st) H) (hS : va_S (fun q : Nat => s.heap.size ≤ q) s.heap H lcs) (hl : lv_has ls 4 [(0, .ref b), (1, .ref (g.1 0)), (2, .ref (g.1 63)), (3, .int x3)])
    (next : ∀ (st2 : sw_St) (H : Heap) (lcs : List Loc), I st2 → va_P g.2.1 vwCl (sw_W g st2) H → va_S (fun q : Nat => s.heap.size ≤ q) s.heap H lcs → W p l e room_1 s m #[Value.ref b] below meth c H lcs 77 5047 Q (F0 m 1393 ls [])) : W p l e room_1 s m #[Value.ref b] below meth c H lcs 77 5047 Q (F0 m 1167 ls []) := by
  have hx := G.1
  have hb := G.2.1
  have hbA : ¬ (fun q : Nat => s.heap.size ≤ q) b := Nat.not_le.mpr hbl
  obtain ⟨r, st1, st2, h1, h2, hI2⟩ := sm (xs (x3 + 1).toNatClampNeg) st hI
  refine lv_aload_n hx hb dL_law_1167 rfl (lv_at hl 1 rfl) ?_
  refine lv_aload_n hx hb dL_law_1168 rfl (lv_at hl 0 rfl) ?_
  refine lv_iload_n hx hb dL_law_1169 rfl (lv_at hl 3 rfl) ?_
  refine lv_iconst (v := 1) hx hb dL_law_1170 (by decide) ?_
  refine lv_iadd hx hb dL_law_1171 ?_
  refine va_sld hx hb hX hbl hbA hS hb1 dL_law_1172 ?_
  refine lw_callI G (o := 0) (As := (fun _ => [.int (xs (x3 + 1).toNatClampNeg)])) hP hS hl.1 sw_cl5 rfl ws_X5_check (by decide) (c_X5_check F (xs (x3 + 1).toNatClampNeg) st h1) rfl rfl (Nat.le_of_ble_eq_true rfl) wm_L_158 dL_law_1173 (fun H lcs hP hS => ?_)
  refine lv_aload_n hx hb dL_law_1176 rfl (lv_at hl 2 rfl) ?_
  refine lv_aload_n hx hb dL_law_1177 rfl (lv_at hl 0 rfl) ?_
  refine lv_iload_n hx hb dL_law_1178 rfl (lv_at hl 3 rfl) ?_
  refine lv_iconst (v := 1) hx hb dL_law_1179 (by decide) ?_
  refine lv_iadd hx hb dL_law_1180 ?_
  refine va_sld hx hb hX hbl hbA hS hb1 dL_law_1181 ?_
  refine lw_callI G (o := 63) (As := (fun _ => [.int (xs (x3 + 1).toNatClampNeg)])) hP hS hl.1 sw_cl6 rfl ws_X6_check (by decide) (c_X6_check F (xs (x3 + 1).toNatClampNeg) st1 h2) rfl rfl (Nat.le_of_ble_eq_true rfl) wm_L_161 dL_law_1182 (fun H lcs hP hS => ?_)
  exact lv_icmp_eq (tgt := 1393) hx hb dL_law_1185 (by decide) (fun _ => next st2 H lcs hI2 hP hS) (fun q => absurd rfl q)
set_option maxHeartbeats 4000000 in
theorem lw_case_36 {p : Program} {l : Launch} {e : Env} {s : State} {m : MethodId} {below : List Frame} {meth : Method} {c : Code} {g : sw_G} {Q : State → Prop} {b L : Nat} {xs : Nat → Int32} {I : sw_St → Prop} {F : Nat} (sm : sm_36 I F) (G : lw_G p s m c b g) (hX : va_X b L xs s s.heap) (hbl : b < s.heap.size) {x3 : Int32} (hb1 : vp_in (x3 + 1) L) (hb2 : vp_in (x3 + 2) L) (hb3 : vp_in (x3 + 3) L) (hb4 : vp_in (x3 + 4) L) (hb5 : vp_in (x3 + 5) L) {st : sw_St} (hI : I st) {H : Heap} {lcs : List Loc} {ls : Array Slot} (hP : va_P g.2.1 vwCl (sw_W g st) H) (hS : va_S (fun q : Nat => s.heap.size ≤ q) s.heap H lcs) (hl : lv_has ls 4 [(0, .ref b), (1, .ref (g.1 0)), (2, .ref (g.1 63)), (3, .int x3)])
    (next : ∀ (st2 : sw_St) (H : Heap) (lcs : List Loc), I st2 → va_P g.2.1 vwCl (sw_W g st2) H → va_S (fun q : Nat => s.heap.size ≤ q) s.heap H lcs → W p l e room_1 s m #[Value.ref b] below meth c H lcs 77 5047 Q (F0 m 1393 ls [])) : W p l e room_1 s m #[Value.ref b] below meth c H lcs 77 5047 Q (F0 m 1190 ls []) := by
  have hx := G.1
  have hb := G.2.1
  have hbA : ¬ (fun q : Nat => s.heap.size ≤ q) b := Nat.not_le.mpr hbl
  obtain ⟨r, st1, st2, h1, h2, hI2⟩ := sm (xs (x3 + 1).toNatClampNeg) (xs (x3 + 2).toNatClampNeg) st hI
  refine lv_aload_n hx hb dL_law_1190 rfl (lv_at hl 1 rfl) ?_
  refine lv_aload_n hx hb dL_law_1191 rfl (lv_at hl 0 rfl) ?_
  refine lv_iload_n hx hb dL_law_1192 rfl (lv_at hl 3 rfl) ?_
  refine lv_iconst (v := 1) hx hb dL_law_1193 (by decide) ?_
  refine lv_iadd hx hb dL_law_1194 ?_
  refine va_sld hx hb hX hbl hbA hS hb1 dL_law_1195 ?_
  refine lv_aload_n hx hb dL_law_1196 rfl (lv_at hl 0 rfl) ?_
  refine lv_iload_n hx hb dL_law_1197 rfl (lv_at hl 3 rfl) ?_
  refine lv_iconst (v := 2) hx hb dL_law_1198 (by decide) ?_
  refine lv_iadd hx hb dL_law_1199 ?_
  refine va_sld hx hb hX hbl hbA hS hb2 dL_law_1200 ?_
  refine lw_callI G (o := 0) (As := (fun _ => [.int (xs (x3 + 1).toNatClampNeg), .int (xs (x3 + 2).toNatClampNeg)])) hP hS hl.1 sw_cl5 rfl ws_X5_odds (by decide) (c_X5_odds F (xs (x3 + 1).toNatClampNeg) (xs (x3 + 2).toNatClampNeg) st h1) rfl rfl (Nat.le_of_ble_eq_true rfl) wm_L_162 dL_law_1201 (fun H lcs hP hS => ?_)
  refine lv_aload_n hx hb dL_law_1204 rfl (lv_at hl 2 rfl) ?_
  refine lv_aload_n hx hb dL_law_1205 rfl (lv_at hl 0 rfl) ?_
  refine lv_iload_n hx hb dL_law_1206 rfl (lv_at hl 3 rfl) ?_
  refine lv_iconst (v := 1) hx hb dL_law_1207 (by decide) ?_
  refine lv_iadd hx hb dL_law_1208 ?_
  refine va_sld hx hb hX hbl hbA hS hb1 dL_law_1209 ?_
  refine lv_aload_n hx hb dL_law_1210 rfl (lv_at hl 0 rfl) ?_
  refine lv_iload_n hx hb dL_law_1211 rfl (lv_at hl 3 rfl) ?_
  refine lv_iconst (v := 2) hx hb dL_law_1212 (by decide) ?_
  refine lv_iadd hx hb dL_law_1213 ?_
  refine va_sld hx hb hX hbl hbA hS hb2 dL_law_1214 ?_
  refine lw_callI G (o := 63) (As := (fun _ => [.int (xs (x3 + 1).toNatClampNeg), .int (xs (x3 + 2).toNatClampNeg)])) hP hS hl.1 sw_cl6 rfl ws_X6_odds (by decide) (c_X6_odds F (xs (x3 + 1).toNatClampNeg) (xs (x3 + 2).toNatClampNeg) st1 h2) rfl rfl (Nat.le_of_ble_eq_true rfl) wm_L_165 dL_law_1215 (fun H lcs hP hS => ?_)
  exact lv_icmp_eq (tgt := 1393) hx hb dL_law_1218 (by decide) (fun _ => next st2 H lcs hI2 hP hS) (fun q => absurd rfl q)
set_option maxHeartbeats 4000000 in
theorem lw_case_37 {p : Program} {l : Launch} {e : Env} {s : State} {m : MethodId} {below : List Frame} {meth : Method} {c : Code} {g : sw_G} {Q : State → Prop} {b L : Nat} {xs : Nat → Int32} {I : sw_St → Prop} {F : Nat} (sm : sm_37 I F) (G : lw_G p s m c b g) (hX : va_X b L xs s s.heap) (hbl : b < s.heap.size) {x3 : Int32} (hb1 : vp_in (x3 + 1) L) (hb2 : vp_in (x3 + 2) L) (hb3 : vp_in (x3 + 3) L) (hb4 : vp_in (x3 + 4) L) (hb5 : vp_in (x3 + 5) L) {st : sw_St} (hI : I st) {H : Heap} {lcs : List Loc} {ls : Array Slot} (hP : va_P g.2.1 vwCl (sw_W g st) H) (hS : va_S (fun q : Nat => s.heap.size ≤ q) s.heap H lcs) (hl : lv_has ls 4 [(0, .ref b), (1, .ref (g.1 0)), (2, .ref (g.1 63)), (3, .int x3)])
    (next : ∀ (st2 : sw_St) (H : Heap) (lcs : List Loc), I st2 → va_P g.2.1 vwCl (sw_W g st2) H → va_S (fun q : Nat => s.heap.size ≤ q) s.heap H lcs → W p l e room_1 s m #[Value.ref b] below meth c H lcs 77 5047 Q (F0 m 1393 ls [])) : W p l e room_1 s m #[Value.ref b] below meth c H lcs 77 5047 Q (F0 m 1223 ls []) := by
  have hx := G.1
  have hb := G.2.1
  have hbA : ¬ (fun q : Nat => s.heap.size ≤ q) b := Nat.not_le.mpr hbl
  obtain ⟨r, st1, st2, h1, h2, hI2⟩ := sm (xs (x3 + 1).toNatClampNeg) st hI
  refine lv_aload_n hx hb dL_law_1223 rfl (lv_at hl 1 rfl) ?_
  refine lv_aload_n hx hb dL_law_1224 rfl (lv_at hl 0 rfl) ?_
  refine lv_iload_n hx hb dL_law_1225 rfl (lv_at hl 3 rfl) ?_
  refine lv_iconst (v := 1) hx hb dL_law_1226 (by decide) ?_
  refine lv_iadd hx hb dL_law_1227 ?_
  refine va_sld hx hb hX hbl hbA hS hb1 dL_law_1228 ?_
  refine lw_callI G (o := 0) (As := (fun _ => [.int (xs (x3 + 1).toNatClampNeg)])) hP hS hl.1 sw_cl5 rfl ws_X5_mid (by decide) (c_X5_mid F (xs (x3 + 1).toNatClampNeg) st h1) rfl rfl (Nat.le_of_ble_eq_true rfl) wm_L_166 dL_law_1229 (fun H lcs hP hS => ?_)
  refine lv_aload_n hx hb dL_law_1232 rfl (lv_at hl 2 rfl) ?_
  refine lv_aload_n hx hb dL_law_1233 rfl (lv_at hl 0 rfl) ?_
  refine lv_iload_n hx hb dL_law_1234 rfl (lv_at hl 3 rfl) ?_
  refine lv_iconst (v := 1) hx hb dL_law_1235 (by decide) ?_
  refine lv_iadd hx hb dL_law_1236 ?_
  refine va_sld hx hb hX hbl hbA hS hb1 dL_law_1237 ?_
  refine lw_callI G (o := 63) (As := (fun _ => [.int (xs (x3 + 1).toNatClampNeg)])) hP hS hl.1 sw_cl6 rfl ws_X6_mid (by decide) (c_X6_mid F (xs (x3 + 1).toNatClampNeg) st1 h2) rfl rfl (Nat.le_of_ble_eq_true rfl) wm_L_169 dL_law_1238 (fun H lcs hP hS => ?_)
  exact lv_icmp_eq (tgt := 1393) hx hb dL_law_1241 (by decide) (fun _ => next st2 H lcs hI2 hP hS) (fun q => absurd rfl q)
set_option maxHeartbeats 4000000 in
theorem lw_case_38 {p : Program} {l : Launch} {e : Env} {s : State} {m : MethodId} {below : List Frame} {meth : Method} {c : Code} {g : sw_G} {Q : State → Prop} {b L : Nat} {xs : Nat → Int32} {I : sw_St → Prop} {F : Nat} (sm : sm_38 I F) (G : lw_G p s m c b g) (hX : va_X b L xs s s.heap) (hbl : b < s.heap.size) {x3 : Int32} (hb1 : vp_in (x3 + 1) L) (hb2 : vp_in (x3 + 2) L) (hb3 : vp_in (x3 + 3) L) (hb4 : vp_in (x3 + 4) L) (hb5 : vp_in (x3 + 5) L) {st : sw_St} (hI : I st) {H : Heap} {lcs : List Loc} {ls : Array Slot} (hP : va_P g.2.1 vwCl (sw_W g st) H) (hS : va_S (fun q : Nat => s.heap.size ≤ q) s.heap H lcs) (hl : lv_has ls 4 [(0, .ref b), (1, .ref (g.1 0)), (2, .ref (g.1 63)), (3, .int x3)])
    (next : ∀ (st2 : sw_St) (H : Heap) (lcs : List Loc), I st2 → va_P g.2.1 vwCl (sw_W g st2) H → va_S (fun q : Nat => s.heap.size ≤ q) s.heap H lcs → W p l e room_1 s m #[Value.ref b] below meth c H lcs 77 5047 Q (F0 m 1393 ls [])) : W p l e room_1 s m #[Value.ref b] below meth c H lcs 77 5047 Q (F0 m 1246 ls []) := by
  have hx := G.1
  have hb := G.2.1
  have hbA : ¬ (fun q : Nat => s.heap.size ≤ q) b := Nat.not_le.mpr hbl
  obtain ⟨r, st1, st2, h1, h2, hI2⟩ := sm (xs (x3 + 1).toNatClampNeg) (xs (x3 + 2).toNatClampNeg) st hI
  refine lv_aload_n hx hb dL_law_1246 rfl (lv_at hl 1 rfl) ?_
  refine lv_aload_n hx hb dL_law_1247 rfl (lv_at hl 0 rfl) ?_
  refine lv_iload_n hx hb dL_law_1248 rfl (lv_at hl 3 rfl) ?_
  refine lv_iconst (v := 1) hx hb dL_law_1249 (by decide) ?_
  refine lv_iadd hx hb dL_law_1250 ?_
  refine va_sld hx hb hX hbl hbA hS hb1 dL_law_1251 ?_
  refine lv_aload_n hx hb dL_law_1252 rfl (lv_at hl 0 rfl) ?_
  refine lv_iload_n hx hb dL_law_1253 rfl (lv_at hl 3 rfl) ?_
  refine lv_iconst (v := 2) hx hb dL_law_1254 (by decide) ?_
  refine lv_iadd hx hb dL_law_1255 ?_
  refine va_sld hx hb hX hbl hbA hS hb2 dL_law_1256 ?_
  refine lw_callI G (o := 0) (As := (fun _ => [.int (xs (x3 + 1).toNatClampNeg), .int (xs (x3 + 2).toNatClampNeg)])) hP hS hl.1 sw_cl5 rfl ws_X5_lots (by decide) (c_X5_lots F (xs (x3 + 1).toNatClampNeg) (xs (x3 + 2).toNatClampNeg) st h1) rfl rfl (Nat.le_of_ble_eq_true rfl) wm_L_170 dL_law_1257 (fun H lcs hP hS => ?_)
  refine lv_aload_n hx hb dL_law_1260 rfl (lv_at hl 2 rfl) ?_
  refine lv_aload_n hx hb dL_law_1261 rfl (lv_at hl 0 rfl) ?_
  refine lv_iload_n hx hb dL_law_1262 rfl (lv_at hl 3 rfl) ?_
  refine lv_iconst (v := 1) hx hb dL_law_1263 (by decide) ?_
  refine lv_iadd hx hb dL_law_1264 ?_
  refine va_sld hx hb hX hbl hbA hS hb1 dL_law_1265 ?_
  refine lv_aload_n hx hb dL_law_1266 rfl (lv_at hl 0 rfl) ?_
  refine lv_iload_n hx hb dL_law_1267 rfl (lv_at hl 3 rfl) ?_
  refine lv_iconst (v := 2) hx hb dL_law_1268 (by decide) ?_
  refine lv_iadd hx hb dL_law_1269 ?_
  refine va_sld hx hb hX hbl hbA hS hb2 dL_law_1270 ?_
  refine lw_callI G (o := 63) (As := (fun _ => [.int (xs (x3 + 1).toNatClampNeg), .int (xs (x3 + 2).toNatClampNeg)])) hP hS hl.1 sw_cl6 rfl ws_X6_lots (by decide) (c_X6_lots F (xs (x3 + 1).toNatClampNeg) (xs (x3 + 2).toNatClampNeg) st1 h2) rfl rfl (Nat.le_of_ble_eq_true rfl) wm_L_173 dL_law_1271 (fun H lcs hP hS => ?_)
  exact lv_icmp_eq (tgt := 1393) hx hb dL_law_1274 (by decide) (fun _ => next st2 H lcs hI2 hP hS) (fun q => absurd rfl q)
set_option maxHeartbeats 4000000 in
theorem lw_case_39 {p : Program} {l : Launch} {e : Env} {s : State} {m : MethodId} {below : List Frame} {meth : Method} {c : Code} {g : sw_G} {Q : State → Prop} {b L : Nat} {xs : Nat → Int32} {I : sw_St → Prop} {F : Nat} (sm : sm_39 I F) (G : lw_G p s m c b g) (hX : va_X b L xs s s.heap) (hbl : b < s.heap.size) {x3 : Int32} (hb1 : vp_in (x3 + 1) L) (hb2 : vp_in (x3 + 2) L) (hb3 : vp_in (x3 + 3) L) (hb4 : vp_in (x3 + 4) L) (hb5 : vp_in (x3 + 5) L) {st : sw_St} (hI : I st) {H : Heap} {lcs : List Loc} {ls : Array Slot} (hP : va_P g.2.1 vwCl (sw_W g st) H) (hS : va_S (fun q : Nat => s.heap.size ≤ q) s.heap H lcs) (hl : lv_has ls 4 [(0, .ref b), (1, .ref (g.1 0)), (2, .ref (g.1 63)), (3, .int x3)])
    (next : ∀ (st2 : sw_St) (H : Heap) (lcs : List Loc), I st2 → va_P g.2.1 vwCl (sw_W g st2) H → va_S (fun q : Nat => s.heap.size ≤ q) s.heap H lcs → W p l e room_1 s m #[Value.ref b] below meth c H lcs 77 5047 Q (F0 m 1393 ls [])) : W p l e room_1 s m #[Value.ref b] below meth c H lcs 77 5047 Q (F0 m 1279 ls []) := by
  have hx := G.1
  have hb := G.2.1
  have hbA : ¬ (fun q : Nat => s.heap.size ≤ q) b := Nat.not_le.mpr hbl
  obtain ⟨r, h1, h2, hI2⟩ := sm st hI
  refine lv_aload_n hx hb dL_law_1279 rfl (lv_at hl 1 rfl) ?_
  refine lw_callI G (o := 0) (As := (fun _ => [])) hP hS hl.1 sw_cl5 rfl ws_X5_asked (by decide) (c_X5_asked F st h1) rfl rfl (Nat.le_of_ble_eq_true rfl) wm_L_174 dL_law_1280 (fun H lcs hP hS => ?_)
  refine lv_aload_n hx hb dL_law_1283 rfl (lv_at hl 2 rfl) ?_
  refine lw_callI G (o := 63) (As := (fun _ => [])) hP hS hl.1 sw_cl6 rfl ws_X6_asked (by decide) (c_X6_asked F st h2) rfl rfl (Nat.le_of_ble_eq_true rfl) wm_L_177 dL_law_1284 (fun H lcs hP hS => ?_)
  exact lv_icmp_eq (tgt := 1393) hx hb dL_law_1287 (by decide) (fun _ => next st H lcs hI2 hP hS) (fun q => absurd rfl q)
set_option maxHeartbeats 4000000 in
theorem lw_case_40 {p : Program} {l : Launch} {e : Env} {s : State} {m : MethodId} {below : List Frame} {meth : Method} {c : Code} {g : sw_G} {Q : State → Prop} {b L : Nat} {xs : Nat → Int32} {I : sw_St → Prop} {F : Nat} (sm : sm_40 I F) (G : lw_G p s m c b g) (hX : va_X b L xs s s.heap) (hbl : b < s.heap.size) {x3 : Int32} (hb1 : vp_in (x3 + 1) L) (hb2 : vp_in (x3 + 2) L) (hb3 : vp_in (x3 + 3) L) (hb4 : vp_in (x3 + 4) L) (hb5 : vp_in (x3 + 5) L) {st : sw_St} (hI : I st) {H : Heap} {lcs : List Loc} {ls : Array Slot} (hP : va_P g.2.1 vwCl (sw_W g st) H) (hS : va_S (fun q : Nat => s.heap.size ≤ q) s.heap H lcs) (hl : lv_has ls 4 [(0, .ref b), (1, .ref (g.1 0)), (2, .ref (g.1 63)), (3, .int x3)])
    (next : ∀ (st2 : sw_St) (H : Heap) (lcs : List Loc), I st2 → va_P g.2.1 vwCl (sw_W g st2) H → va_S (fun q : Nat => s.heap.size ≤ q) s.heap H lcs → W p l e room_1 s m #[Value.ref b] below meth c H lcs 77 5047 Q (F0 m 1393 ls [])) : W p l e room_1 s m #[Value.ref b] below meth c H lcs 77 5047 Q (F0 m 1292 ls []) := by
  have hx := G.1
  have hb := G.2.1
  have hbA : ¬ (fun q : Nat => s.heap.size ≤ q) b := Nat.not_le.mpr hbl
  obtain ⟨r, h1, h2, hI2⟩ := sm st hI
  refine lv_aload_n hx hb dL_law_1292 rfl (lv_at hl 1 rfl) ?_
  refine lw_callL G (o := 0) (As := (fun _ => [])) hP hS hl.1 sw_cl5 rfl ws_X5_upper (by decide) (c_X5_upper F st h1) rfl rfl (Nat.le_of_ble_eq_true rfl) wm_L_178 dL_law_1293 (fun H lcs hP hS => ?_)
  refine lv_aload_n hx hb dL_law_1296 rfl (lv_at hl 2 rfl) ?_
  refine lw_callL G (o := 63) (As := (fun _ => [])) hP hS hl.1 sw_cl6 rfl ws_X6_upper (by decide) (c_X6_upper F st h2) rfl rfl (Nat.le_of_ble_eq_true rfl) wm_L_182 dL_law_1297 (fun H lcs hP hS => ?_)
  refine W.lcmp hx hb dL_law_1300 ?_
  exact lv_if_eq (tgt := 1393) hx hb dL_law_1301 (by decide) (fun _ => next st H lcs hI2 hP hS) (fun q => absurd (lw_cmp0 r) q)
set_option maxHeartbeats 4000000 in
theorem lw_case_41 {p : Program} {l : Launch} {e : Env} {s : State} {m : MethodId} {below : List Frame} {meth : Method} {c : Code} {g : sw_G} {Q : State → Prop} {b L : Nat} {xs : Nat → Int32} {I : sw_St → Prop} {F : Nat} (sm : sm_41 I F) (G : lw_G p s m c b g) (hX : va_X b L xs s s.heap) (hbl : b < s.heap.size) {x3 : Int32} (hb1 : vp_in (x3 + 1) L) (hb2 : vp_in (x3 + 2) L) (hb3 : vp_in (x3 + 3) L) (hb4 : vp_in (x3 + 4) L) (hb5 : vp_in (x3 + 5) L) {st : sw_St} (hI : I st) {H : Heap} {lcs : List Loc} {ls : Array Slot} (hP : va_P g.2.1 vwCl (sw_W g st) H) (hS : va_S (fun q : Nat => s.heap.size ≤ q) s.heap H lcs) (hl : lv_has ls 4 [(0, .ref b), (1, .ref (g.1 0)), (2, .ref (g.1 63)), (3, .int x3)])
    (next : ∀ (st2 : sw_St) (H : Heap) (lcs : List Loc), I st2 → va_P g.2.1 vwCl (sw_W g st2) H → va_S (fun q : Nat => s.heap.size ≤ q) s.heap H lcs → W p l e room_1 s m #[Value.ref b] below meth c H lcs 77 5047 Q (F0 m 1393 ls [])) : W p l e room_1 s m #[Value.ref b] below meth c H lcs 77 5047 Q (F0 m 1306 ls []) := by
  have hx := G.1
  have hb := G.2.1
  have hbA : ¬ (fun q : Nat => s.heap.size ≤ q) b := Nat.not_le.mpr hbl
  obtain ⟨r, h1, h2, hI2⟩ := sm st hI
  refine lv_aload_n hx hb dL_law_1306 rfl (lv_at hl 1 rfl) ?_
  refine lw_callL G (o := 0) (As := (fun _ => [])) hP hS hl.1 sw_cl5 rfl ws_X5_lower (by decide) (c_X5_lower F st h1) rfl rfl (Nat.le_of_ble_eq_true rfl) wm_L_183 dL_law_1307 (fun H lcs hP hS => ?_)
  refine lv_aload_n hx hb dL_law_1310 rfl (lv_at hl 2 rfl) ?_
  refine lw_callL G (o := 63) (As := (fun _ => [])) hP hS hl.1 sw_cl6 rfl ws_X6_lower (by decide) (c_X6_lower F st h2) rfl rfl (Nat.le_of_ble_eq_true rfl) wm_L_186 dL_law_1311 (fun H lcs hP hS => ?_)
  refine W.lcmp hx hb dL_law_1314 ?_
  exact lv_if_eq (tgt := 1393) hx hb dL_law_1315 (by decide) (fun _ => next st H lcs hI2 hP hS) (fun q => absurd (lw_cmp0 r) q)
set_option maxHeartbeats 4000000 in
theorem lw_case_42 {p : Program} {l : Launch} {e : Env} {s : State} {m : MethodId} {below : List Frame} {meth : Method} {c : Code} {g : sw_G} {Q : State → Prop} {b L : Nat} {xs : Nat → Int32} {I : sw_St → Prop} {F : Nat} (sm : sm_42 I F) (G : lw_G p s m c b g) (hX : va_X b L xs s s.heap) (hbl : b < s.heap.size) {x3 : Int32} (hb1 : vp_in (x3 + 1) L) (hb2 : vp_in (x3 + 2) L) (hb3 : vp_in (x3 + 3) L) (hb4 : vp_in (x3 + 4) L) (hb5 : vp_in (x3 + 5) L) {st : sw_St} (hI : I st) {H : Heap} {lcs : List Loc} {ls : Array Slot} (hP : va_P g.2.1 vwCl (sw_W g st) H) (hS : va_S (fun q : Nat => s.heap.size ≤ q) s.heap H lcs) (hl : lv_has ls 4 [(0, .ref b), (1, .ref (g.1 0)), (2, .ref (g.1 63)), (3, .int x3)])
    (next : ∀ (st2 : sw_St) (H : Heap) (lcs : List Loc), I st2 → va_P g.2.1 vwCl (sw_W g st2) H → va_S (fun q : Nat => s.heap.size ≤ q) s.heap H lcs → W p l e room_1 s m #[Value.ref b] below meth c H lcs 77 5047 Q (F0 m 1393 ls [])) : W p l e room_1 s m #[Value.ref b] below meth c H lcs 77 5047 Q (F0 m 1320 ls []) := by
  have hx := G.1
  have hb := G.2.1
  have hbA : ¬ (fun q : Nat => s.heap.size ≤ q) b := Nat.not_le.mpr hbl
  obtain ⟨r, h1, h2, hI2⟩ := sm (xs (x3 + 1).toNatClampNeg) st hI
  refine lv_aload_n hx hb dL_law_1320 rfl (lv_at hl 1 rfl) ?_
  refine lv_aload_n hx hb dL_law_1321 rfl (lv_at hl 0 rfl) ?_
  refine lv_iload_n hx hb dL_law_1322 rfl (lv_at hl 3 rfl) ?_
  refine lv_iconst (v := 1) hx hb dL_law_1323 (by decide) ?_
  refine lv_iadd hx hb dL_law_1324 ?_
  refine va_sld hx hb hX hbl hbA hS hb1 dL_law_1325 ?_
  refine lw_callI G (o := 0) (As := (fun _ => [.int (xs (x3 + 1).toNatClampNeg)])) hP hS hl.1 sw_cl5 rfl ws_X5_count (by decide) (c_X5_count F (xs (x3 + 1).toNatClampNeg) st h1) rfl rfl (Nat.le_of_ble_eq_true rfl) wm_L_187 dL_law_1326 (fun H lcs hP hS => ?_)
  refine lv_aload_n hx hb dL_law_1329 rfl (lv_at hl 2 rfl) ?_
  refine lv_aload_n hx hb dL_law_1330 rfl (lv_at hl 0 rfl) ?_
  refine lv_iload_n hx hb dL_law_1331 rfl (lv_at hl 3 rfl) ?_
  refine lv_iconst (v := 1) hx hb dL_law_1332 (by decide) ?_
  refine lv_iadd hx hb dL_law_1333 ?_
  refine va_sld hx hb hX hbl hbA hS hb1 dL_law_1334 ?_
  refine lw_callI G (o := 63) (As := (fun _ => [.int (xs (x3 + 1).toNatClampNeg)])) hP hS hl.1 sw_cl6 rfl ws_X6_count (by decide) (c_X6_count F (xs (x3 + 1).toNatClampNeg) st h2) rfl rfl (Nat.le_of_ble_eq_true rfl) wm_L_190 dL_law_1335 (fun H lcs hP hS => ?_)
  exact lv_icmp_eq (tgt := 1393) hx hb dL_law_1338 (by decide) (fun _ => next st H lcs hI2 hP hS) (fun q => absurd rfl q)
set_option maxHeartbeats 4000000 in
theorem lw_case_43 {p : Program} {l : Launch} {e : Env} {s : State} {m : MethodId} {below : List Frame} {meth : Method} {c : Code} {g : sw_G} {Q : State → Prop} {b L : Nat} {xs : Nat → Int32} {I : sw_St → Prop} {F : Nat} (sm : sm_43 I F) (G : lw_G p s m c b g) (hX : va_X b L xs s s.heap) (hbl : b < s.heap.size) {x3 : Int32} (hb1 : vp_in (x3 + 1) L) (hb2 : vp_in (x3 + 2) L) (hb3 : vp_in (x3 + 3) L) (hb4 : vp_in (x3 + 4) L) (hb5 : vp_in (x3 + 5) L) {st : sw_St} (hI : I st) {H : Heap} {lcs : List Loc} {ls : Array Slot} (hP : va_P g.2.1 vwCl (sw_W g st) H) (hS : va_S (fun q : Nat => s.heap.size ≤ q) s.heap H lcs) (hl : lv_has ls 4 [(0, .ref b), (1, .ref (g.1 0)), (2, .ref (g.1 63)), (3, .int x3)])
    (next : ∀ (st2 : sw_St) (H : Heap) (lcs : List Loc), I st2 → va_P g.2.1 vwCl (sw_W g st2) H → va_S (fun q : Nat => s.heap.size ≤ q) s.heap H lcs → W p l e room_1 s m #[Value.ref b] below meth c H lcs 77 5047 Q (F0 m 1393 ls [])) : W p l e room_1 s m #[Value.ref b] below meth c H lcs 77 5047 Q (F0 m 1343 ls []) := by
  have hx := G.1
  have hb := G.2.1
  have hbA : ¬ (fun q : Nat => s.heap.size ≤ q) b := Nat.not_le.mpr hbl
  obtain ⟨r, h1, h2, hI2⟩ := sm st hI
  refine lv_aload_n hx hb dL_law_1343 rfl (lv_at hl 1 rfl) ?_
  refine lw_callI G (o := 0) (As := (fun _ => [])) hP hS hl.1 sw_cl5 rfl ws_X5_finding (by decide) (c_X5_finding F st h1) rfl rfl (Nat.le_of_ble_eq_true rfl) wm_L_191 dL_law_1344 (fun H lcs hP hS => ?_)
  refine lv_aload_n hx hb dL_law_1347 rfl (lv_at hl 2 rfl) ?_
  refine lw_callI G (o := 63) (As := (fun _ => [])) hP hS hl.1 sw_cl6 rfl ws_X6_finding (by decide) (c_X6_finding F st h2) rfl rfl (Nat.le_of_ble_eq_true rfl) wm_L_194 dL_law_1348 (fun H lcs hP hS => ?_)
  exact lv_icmp_eq (tgt := 1393) hx hb dL_law_1351 (by decide) (fun _ => next st H lcs hI2 hP hS) (fun q => absurd rfl q)
set_option maxHeartbeats 4000000 in
theorem lw_case_44 {p : Program} {l : Launch} {e : Env} {s : State} {m : MethodId} {below : List Frame} {meth : Method} {c : Code} {g : sw_G} {Q : State → Prop} {b L : Nat} {xs : Nat → Int32} {I : sw_St → Prop} {F : Nat} (sm : sm_44 I F) (G : lw_G p s m c b g) (hX : va_X b L xs s s.heap) (hbl : b < s.heap.size) {x3 : Int32} (hb1 : vp_in (x3 + 1) L) (hb2 : vp_in (x3 + 2) L) (hb3 : vp_in (x3 + 3) L) (hb4 : vp_in (x3 + 4) L) (hb5 : vp_in (x3 + 5) L) {st : sw_St} (hI : I st) {H : Heap} {lcs : List Loc} {ls : Array Slot} (hP : va_P g.2.1 vwCl (sw_W g st) H) (hS : va_S (fun q : Nat => s.heap.size ≤ q) s.heap H lcs) (hl : lv_has ls 4 [(0, .ref b), (1, .ref (g.1 0)), (2, .ref (g.1 63)), (3, .int x3)])
    (next : ∀ (st2 : sw_St) (H : Heap) (lcs : List Loc), I st2 → va_P g.2.1 vwCl (sw_W g st2) H → va_S (fun q : Nat => s.heap.size ≤ q) s.heap H lcs → W p l e room_1 s m #[Value.ref b] below meth c H lcs 77 5047 Q (F0 m 1393 ls [])) : W p l e room_1 s m #[Value.ref b] below meth c H lcs 77 5047 Q (F0 m 1356 ls []) := by
  have hx := G.1
  have hb := G.2.1
  have hbA : ¬ (fun q : Nat => s.heap.size ≤ q) b := Nat.not_le.mpr hbl
  obtain ⟨r, h1, h2, hI2⟩ := sm (xs (x3 + 1).toNatClampNeg) st hI
  refine lv_aload_n hx hb dL_law_1356 rfl (lv_at hl 1 rfl) ?_
  refine lv_aload_n hx hb dL_law_1357 rfl (lv_at hl 0 rfl) ?_
  refine lv_iload_n hx hb dL_law_1358 rfl (lv_at hl 3 rfl) ?_
  refine lv_iconst (v := 1) hx hb dL_law_1359 (by decide) ?_
  refine lv_iadd hx hb dL_law_1360 ?_
  refine va_sld hx hb hX hbl hbA hS hb1 dL_law_1361 ?_
  refine lw_callI G (o := 0) (As := (fun _ => [.int (xs (x3 + 1).toNatClampNeg)])) hP hS hl.1 sw_cl5 rfl ws_X5_findings (by decide) (c_X5_findings F (xs (x3 + 1).toNatClampNeg) st h1) rfl rfl (Nat.le_of_ble_eq_true rfl) wm_L_195 dL_law_1362 (fun H lcs hP hS => ?_)
  refine lv_aload_n hx hb dL_law_1365 rfl (lv_at hl 2 rfl) ?_
  refine lv_aload_n hx hb dL_law_1366 rfl (lv_at hl 0 rfl) ?_
  refine lv_iload_n hx hb dL_law_1367 rfl (lv_at hl 3 rfl) ?_
  refine lv_iconst (v := 1) hx hb dL_law_1368 (by decide) ?_
  refine lv_iadd hx hb dL_law_1369 ?_
  refine va_sld hx hb hX hbl hbA hS hb1 dL_law_1370 ?_
  refine lw_callI G (o := 63) (As := (fun _ => [.int (xs (x3 + 1).toNatClampNeg)])) hP hS hl.1 sw_cl6 rfl ws_X6_findings (by decide) (c_X6_findings F (xs (x3 + 1).toNatClampNeg) st h2) rfl rfl (Nat.le_of_ble_eq_true rfl) wm_L_198 dL_law_1371 (fun H lcs hP hS => ?_)
  exact lv_icmp_eq (tgt := 1393) hx hb dL_law_1374 (by decide) (fun _ => next st H lcs hI2 hP hS) (fun q => absurd rfl q)
set_option maxHeartbeats 4000000 in
theorem lw_case_45 {p : Program} {l : Launch} {e : Env} {s : State} {m : MethodId} {below : List Frame} {meth : Method} {c : Code} {g : sw_G} {Q : State → Prop} {b L : Nat} {xs : Nat → Int32} {I : sw_St → Prop} {F : Nat} (sm : sm_45 I F) (G : lw_G p s m c b g) (hX : va_X b L xs s s.heap) (hbl : b < s.heap.size) {x3 : Int32} (hb1 : vp_in (x3 + 1) L) (hb2 : vp_in (x3 + 2) L) (hb3 : vp_in (x3 + 3) L) (hb4 : vp_in (x3 + 4) L) (hb5 : vp_in (x3 + 5) L) {st : sw_St} (hI : I st) {H : Heap} {lcs : List Loc} {ls : Array Slot} (hP : va_P g.2.1 vwCl (sw_W g st) H) (hS : va_S (fun q : Nat => s.heap.size ≤ q) s.heap H lcs) (hl : lv_has ls 4 [(0, .ref b), (1, .ref (g.1 0)), (2, .ref (g.1 63)), (3, .int x3)])
    (next : ∀ (st2 : sw_St) (H : Heap) (lcs : List Loc), I st2 → va_P g.2.1 vwCl (sw_W g st2) H → va_S (fun q : Nat => s.heap.size ≤ q) s.heap H lcs → W p l e room_1 s m #[Value.ref b] below meth c H lcs 77 5047 Q (F0 m 1393 ls [])) : W p l e room_1 s m #[Value.ref b] below meth c H lcs 77 5047 Q (F0 m 1379 ls []) := by
  have hx := G.1
  have hb := G.2.1
  have hbA : ¬ (fun q : Nat => s.heap.size ≤ q) b := Nat.not_le.mpr hbl
  obtain ⟨r, h1, h2, hI2⟩ := sm st hI
  refine lv_aload_n hx hb dL_law_1379 rfl (lv_at hl 1 rfl) ?_
  refine lw_callL G (o := 0) (As := (fun _ => [])) hP hS hl.1 sw_cl5 rfl ws_X5_digest (by decide) (c_X5_digest F st h1) rfl rfl (Nat.le_of_ble_eq_true rfl) wm_L_199 dL_law_1380 (fun H lcs hP hS => ?_)
  refine lv_aload_n hx hb dL_law_1383 rfl (lv_at hl 2 rfl) ?_
  refine lw_callL G (o := 63) (As := (fun _ => [])) hP hS hl.1 sw_cl6 rfl ws_X6_digest (by decide) (c_X6_digest F st h2) rfl rfl (Nat.le_of_ble_eq_true rfl) wm_L_202 dL_law_1384 (fun H lcs hP hS => ?_)
  refine W.lcmp hx hb dL_law_1387 ?_
  exact lv_if_eq (tgt := 1393) hx hb dL_law_1388 (by decide) (fun _ => next st H lcs hI2 hP hS) (fun q => absurd (lw_cmp0 r) q)
