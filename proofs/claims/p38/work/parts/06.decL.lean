theorem dL_at_0 : decode cL_at 0 = .ok (.iload_n 1, 1) := by decide +kernel
theorem dL_at_1 : decode cL_at 1 = .ok (.aload_n 0, 1) := by decide +kernel
theorem dL_at_2 : decode cL_at 2 = .ok (.arraylength, 1) := by decide +kernel
theorem dL_at_3 : decode cL_at 3 = .ok (.if_icmp .ge 9, 3) := by decide +kernel
theorem dL_at_6 : decode cL_at 6 = .ok (.aload_n 0, 1) := by decide +kernel
theorem dL_at_7 : decode cL_at 7 = .ok (.iload_n 1, 1) := by decide +kernel
theorem dL_at_8 : decode cL_at 8 = .ok (.iaload, 1) := by decide +kernel
theorem dL_at_9 : decode cL_at 9 = .ok (.goto 4, 3) := by decide +kernel
theorem dL_at_12 : decode cL_at 12 = .ok (.iconst 0, 1) := by decide +kernel
theorem dL_at_13 : decode cL_at 13 = .ok (.ireturn, 1) := by decide +kernel
theorem dL_some_0 : decode cL_some 0 = .ok (.iload_n 0, 1) := by decide +kernel
theorem dL_some_1 : decode cL_some 1 = .ok (.iload_n 1, 1) := by decide +kernel
theorem dL_some_2 : decode cL_some 2 = .ok (.irem, 1) := by decide +kernel
theorem dL_some_3 : decode cL_some 3 = .ok (.istore_n 2, 1) := by decide +kernel
theorem dL_some_4 : decode cL_some 4 = .ok (.iload_n 2, 1) := by decide +kernel
theorem dL_some_5 : decode cL_some 5 = .ok (.ifCond .ge 9, 3) := by decide +kernel
theorem dL_some_8 : decode cL_some 8 = .ok (.iload_n 2, 1) := by decide +kernel
theorem dL_some_9 : decode cL_some 9 = .ok (.iload_n 1, 1) := by decide +kernel
theorem dL_some_10 : decode cL_some 10 = .ok (.iadd, 1) := by decide +kernel
theorem dL_some_11 : decode cL_some 11 = .ok (.goto 4, 3) := by decide +kernel
theorem dL_some_14 : decode cL_some 14 = .ok (.iload_n 2, 1) := by decide +kernel
theorem dL_some_15 : decode cL_some 15 = .ok (.ireturn, 1) := by decide +kernel
theorem dL_ask_0 : decode cL_ask 0 = .ok (.iload_n 1, 1) := by decide +kernel
theorem dL_ask_1 : decode cL_ask 1 = .ok (.tableswitch 590 65 121 #[504, 590, 590, 590, 251, 590, 590, 362, 590, 590, 590, 590, 513, 532, 261, 256, 590, 243, 590, 590, 590, 590, 392, 590, 590, 590, 590, 590, 590, 590, 590, 590, 343, 287, 551, 373, 590, 590, 403, 354, 590, 590, 559, 425, 414, 590, 483, 312, 590, 454, 320, 492, 301, 590, 384, 433, 472], 243) := by decide +kernel
theorem dL_ask_244 : decode cL_ask 244 = .ok (.aload_n 0, 1) := by decide +kernel
theorem dL_ask_245 : decode cL_ask 245 = .ok (.aload_n 2, 1) := by decide +kernel
theorem dL_ask_246 : decode cL_ask 246 = .ok (.iconst 0, 1) := by decide +kernel
theorem dL_ask_247 : decode cL_ask 247 = .ok (.iaload, 1) := by decide +kernel
theorem dL_ask_248 : decode cL_ask 248 = .ok (.invokevirtual 7, 3) := by decide +kernel
theorem dL_ask_251 : decode cL_ask 251 = .ok (.ireturn, 1) := by decide +kernel
theorem dL_ask_252 : decode cL_ask 252 = .ok (.aload_n 0, 1) := by decide +kernel
theorem dL_ask_253 : decode cL_ask 253 = .ok (.invokevirtual 13, 3) := by decide +kernel
theorem dL_ask_256 : decode cL_ask 256 = .ok (.ireturn, 1) := by decide +kernel
theorem dL_ask_257 : decode cL_ask 257 = .ok (.aload_n 0, 1) := by decide +kernel
theorem dL_ask_258 : decode cL_ask 258 = .ok (.invokevirtual 17, 3) := by decide +kernel
theorem dL_ask_261 : decode cL_ask 261 = .ok (.ireturn, 1) := by decide +kernel
theorem dL_ask_262 : decode cL_ask 262 = .ok (.aload_n 0, 1) := by decide +kernel
theorem dL_ask_263 : decode cL_ask 263 = .ok (.aload_n 2, 1) := by decide +kernel
theorem dL_ask_264 : decode cL_ask 264 = .ok (.iconst 0, 1) := by decide +kernel
theorem dL_ask_265 : decode cL_ask 265 = .ok (.iaload, 1) := by decide +kernel
theorem dL_ask_266 : decode cL_ask 266 = .ok (.aload_n 2, 1) := by decide +kernel
theorem dL_ask_267 : decode cL_ask 267 = .ok (.iconst 1, 1) := by decide +kernel
theorem dL_ask_268 : decode cL_ask 268 = .ok (.iaload, 1) := by decide +kernel
theorem dL_ask_269 : decode cL_ask 269 = .ok (.aload_n 2, 1) := by decide +kernel
theorem dL_ask_270 : decode cL_ask 270 = .ok (.iconst 2, 1) := by decide +kernel
theorem dL_ask_271 : decode cL_ask 271 = .ok (.iaload, 1) := by decide +kernel
theorem dL_ask_272 : decode cL_ask 272 = .ok (.aload_n 2, 1) := by decide +kernel
theorem dL_ask_273 : decode cL_ask 273 = .ok (.iconst 3, 1) := by decide +kernel
theorem dL_ask_274 : decode cL_ask 274 = .ok (.iaload, 1) := by decide +kernel
theorem dL_ask_275 : decode cL_ask 275 = .ok (.iconst 1, 1) := by decide +kernel
theorem dL_ask_276 : decode cL_ask 276 = .ok (.if_icmp .ne 7, 3) := by decide +kernel
theorem dL_ask_279 : decode cL_ask 279 = .ok (.iconst 1, 1) := by decide +kernel
theorem dL_ask_280 : decode cL_ask 280 = .ok (.goto 4, 3) := by decide +kernel
theorem dL_ask_283 : decode cL_ask 283 = .ok (.iconst 0, 1) := by decide +kernel
theorem dL_ask_284 : decode cL_ask 284 = .ok (.invokevirtual 20, 3) := by decide +kernel
theorem dL_ask_287 : decode cL_ask 287 = .ok (.ireturn, 1) := by decide +kernel
theorem dL_ask_288 : decode cL_ask 288 = .ok (.aload_n 0, 1) := by decide +kernel
theorem dL_ask_289 : decode cL_ask 289 = .ok (.aload_n 2, 1) := by decide +kernel
theorem dL_ask_290 : decode cL_ask 290 = .ok (.iconst 0, 1) := by decide +kernel
theorem dL_ask_291 : decode cL_ask 291 = .ok (.iaload, 1) := by decide +kernel
theorem dL_ask_292 : decode cL_ask 292 = .ok (.aload_n 2, 1) := by decide +kernel
theorem dL_ask_293 : decode cL_ask 293 = .ok (.iconst 1, 1) := by decide +kernel
theorem dL_ask_294 : decode cL_ask 294 = .ok (.iaload, 1) := by decide +kernel
theorem dL_ask_295 : decode cL_ask 295 = .ok (.aload_n 2, 1) := by decide +kernel
theorem dL_ask_296 : decode cL_ask 296 = .ok (.iconst 2, 1) := by decide +kernel
theorem dL_ask_297 : decode cL_ask 297 = .ok (.iaload, 1) := by decide +kernel
theorem dL_ask_298 : decode cL_ask 298 = .ok (.invokevirtual 24, 3) := by decide +kernel
theorem dL_ask_301 : decode cL_ask 301 = .ok (.ireturn, 1) := by decide +kernel
theorem dL_ask_302 : decode cL_ask 302 = .ok (.aload_n 0, 1) := by decide +kernel
theorem dL_ask_303 : decode cL_ask 303 = .ok (.aload_n 2, 1) := by decide +kernel
theorem dL_ask_304 : decode cL_ask 304 = .ok (.iconst 0, 1) := by decide +kernel
theorem dL_ask_305 : decode cL_ask 305 = .ok (.iaload, 1) := by decide +kernel
theorem dL_ask_306 : decode cL_ask 306 = .ok (.aload_n 2, 1) := by decide +kernel
theorem dL_ask_307 : decode cL_ask 307 = .ok (.iconst 1, 1) := by decide +kernel
theorem dL_ask_308 : decode cL_ask 308 = .ok (.iaload, 1) := by decide +kernel
theorem dL_ask_309 : decode cL_ask 309 = .ok (.invokevirtual 28, 3) := by decide +kernel
theorem dL_ask_312 : decode cL_ask 312 = .ok (.ireturn, 1) := by decide +kernel
theorem dL_ask_313 : decode cL_ask 313 = .ok (.aload_n 0, 1) := by decide +kernel
theorem dL_ask_314 : decode cL_ask 314 = .ok (.aload_n 2, 1) := by decide +kernel
theorem dL_ask_315 : decode cL_ask 315 = .ok (.iconst 0, 1) := by decide +kernel
theorem dL_ask_316 : decode cL_ask 316 = .ok (.iaload, 1) := by decide +kernel
theorem dL_ask_317 : decode cL_ask 317 = .ok (.invokevirtual 32, 3) := by decide +kernel
theorem dL_ask_320 : decode cL_ask 320 = .ok (.ireturn, 1) := by decide +kernel
theorem dL_ask_321 : decode cL_ask 321 = .ok (.aload_n 0, 1) := by decide +kernel
theorem dL_ask_322 : decode cL_ask 322 = .ok (.aload_n 2, 1) := by decide +kernel
theorem dL_ask_323 : decode cL_ask 323 = .ok (.iconst 0, 1) := by decide +kernel
theorem dL_ask_324 : decode cL_ask 324 = .ok (.iaload, 1) := by decide +kernel
theorem dL_ask_325 : decode cL_ask 325 = .ok (.aload_n 2, 1) := by decide +kernel
theorem dL_ask_326 : decode cL_ask 326 = .ok (.iconst 1, 1) := by decide +kernel
theorem dL_ask_327 : decode cL_ask 327 = .ok (.iaload, 1) := by decide +kernel
theorem dL_ask_328 : decode cL_ask 328 = .ok (.aload_n 2, 1) := by decide +kernel
theorem dL_ask_329 : decode cL_ask 329 = .ok (.iconst 2, 1) := by decide +kernel
theorem dL_ask_330 : decode cL_ask 330 = .ok (.iaload, 1) := by decide +kernel
theorem dL_ask_331 : decode cL_ask 331 = .ok (.iconst 1, 1) := by decide +kernel
theorem dL_ask_332 : decode cL_ask 332 = .ok (.if_icmp .ne 7, 3) := by decide +kernel
theorem dL_ask_335 : decode cL_ask 335 = .ok (.iconst 1, 1) := by decide +kernel
theorem dL_ask_336 : decode cL_ask 336 = .ok (.goto 4, 3) := by decide +kernel
theorem dL_ask_339 : decode cL_ask 339 = .ok (.iconst 0, 1) := by decide +kernel
theorem dL_ask_340 : decode cL_ask 340 = .ok (.invokevirtual 35, 3) := by decide +kernel
theorem dL_ask_343 : decode cL_ask 343 = .ok (.ireturn, 1) := by decide +kernel
theorem dL_ask_344 : decode cL_ask 344 = .ok (.aload_n 0, 1) := by decide +kernel
theorem dL_ask_345 : decode cL_ask 345 = .ok (.aload_n 2, 1) := by decide +kernel
theorem dL_ask_346 : decode cL_ask 346 = .ok (.iconst 0, 1) := by decide +kernel
theorem dL_ask_347 : decode cL_ask 347 = .ok (.iaload, 1) := by decide +kernel
theorem dL_ask_348 : decode cL_ask 348 = .ok (.aload_n 2, 1) := by decide +kernel
theorem dL_ask_349 : decode cL_ask 349 = .ok (.iconst 1, 1) := by decide +kernel
theorem dL_ask_350 : decode cL_ask 350 = .ok (.iaload, 1) := by decide +kernel
theorem dL_ask_351 : decode cL_ask 351 = .ok (.invokevirtual 39, 3) := by decide +kernel
theorem dL_ask_354 : decode cL_ask 354 = .ok (.ireturn, 1) := by decide +kernel
theorem dL_ask_355 : decode cL_ask 355 = .ok (.aload_n 0, 1) := by decide +kernel
theorem dL_ask_356 : decode cL_ask 356 = .ok (.aload_n 2, 1) := by decide +kernel
theorem dL_ask_357 : decode cL_ask 357 = .ok (.iconst 0, 1) := by decide +kernel
theorem dL_ask_358 : decode cL_ask 358 = .ok (.iaload, 1) := by decide +kernel
theorem dL_ask_359 : decode cL_ask 359 = .ok (.invokevirtual 42, 3) := by decide +kernel
theorem dL_ask_362 : decode cL_ask 362 = .ok (.ireturn, 1) := by decide +kernel
theorem dL_ask_363 : decode cL_ask 363 = .ok (.aload_n 0, 1) := by decide +kernel
theorem dL_ask_364 : decode cL_ask 364 = .ok (.aload_n 2, 1) := by decide +kernel
theorem dL_ask_365 : decode cL_ask 365 = .ok (.iconst 0, 1) := by decide +kernel
theorem dL_ask_366 : decode cL_ask 366 = .ok (.iaload, 1) := by decide +kernel
theorem dL_ask_367 : decode cL_ask 367 = .ok (.aload_n 2, 1) := by decide +kernel
theorem dL_ask_368 : decode cL_ask 368 = .ok (.iconst 1, 1) := by decide +kernel
theorem dL_ask_369 : decode cL_ask 369 = .ok (.iaload, 1) := by decide +kernel
theorem dL_ask_370 : decode cL_ask 370 = .ok (.invokevirtual 45, 3) := by decide +kernel
theorem dL_ask_373 : decode cL_ask 373 = .ok (.ireturn, 1) := by decide +kernel
theorem dL_ask_374 : decode cL_ask 374 = .ok (.aload_n 0, 1) := by decide +kernel
theorem dL_ask_375 : decode cL_ask 375 = .ok (.aload_n 2, 1) := by decide +kernel
theorem dL_ask_376 : decode cL_ask 376 = .ok (.iconst 0, 1) := by decide +kernel
theorem dL_ask_377 : decode cL_ask 377 = .ok (.iaload, 1) := by decide +kernel
theorem dL_ask_378 : decode cL_ask 378 = .ok (.aload_n 2, 1) := by decide +kernel
theorem dL_ask_379 : decode cL_ask 379 = .ok (.iconst 1, 1) := by decide +kernel
theorem dL_ask_380 : decode cL_ask 380 = .ok (.iaload, 1) := by decide +kernel
theorem dL_ask_381 : decode cL_ask 381 = .ok (.invokevirtual 48, 3) := by decide +kernel
theorem dL_ask_384 : decode cL_ask 384 = .ok (.ireturn, 1) := by decide +kernel
theorem dL_ask_385 : decode cL_ask 385 = .ok (.aload_n 0, 1) := by decide +kernel
theorem dL_ask_386 : decode cL_ask 386 = .ok (.aload_n 2, 1) := by decide +kernel
theorem dL_ask_387 : decode cL_ask 387 = .ok (.iconst 0, 1) := by decide +kernel
theorem dL_ask_388 : decode cL_ask 388 = .ok (.iaload, 1) := by decide +kernel
theorem dL_ask_389 : decode cL_ask 389 = .ok (.invokevirtual 51, 3) := by decide +kernel
theorem dL_ask_392 : decode cL_ask 392 = .ok (.ireturn, 1) := by decide +kernel
theorem dL_ask_393 : decode cL_ask 393 = .ok (.aload_n 0, 1) := by decide +kernel
theorem dL_ask_394 : decode cL_ask 394 = .ok (.aload_n 2, 1) := by decide +kernel
theorem dL_ask_395 : decode cL_ask 395 = .ok (.iconst 0, 1) := by decide +kernel
theorem dL_ask_396 : decode cL_ask 396 = .ok (.iaload, 1) := by decide +kernel
theorem dL_ask_397 : decode cL_ask 397 = .ok (.aload_n 2, 1) := by decide +kernel
theorem dL_ask_398 : decode cL_ask 398 = .ok (.iconst 1, 1) := by decide +kernel
theorem dL_ask_399 : decode cL_ask 399 = .ok (.iaload, 1) := by decide +kernel
theorem dL_ask_400 : decode cL_ask 400 = .ok (.invokevirtual 54, 3) := by decide +kernel
theorem dL_ask_403 : decode cL_ask 403 = .ok (.ireturn, 1) := by decide +kernel
theorem dL_ask_404 : decode cL_ask 404 = .ok (.aload_n 0, 1) := by decide +kernel
theorem dL_ask_405 : decode cL_ask 405 = .ok (.aload_n 2, 1) := by decide +kernel
theorem dL_ask_406 : decode cL_ask 406 = .ok (.iconst 0, 1) := by decide +kernel
theorem dL_ask_407 : decode cL_ask 407 = .ok (.iaload, 1) := by decide +kernel
theorem dL_ask_408 : decode cL_ask 408 = .ok (.aload_n 2, 1) := by decide +kernel
theorem dL_ask_409 : decode cL_ask 409 = .ok (.iconst 1, 1) := by decide +kernel
theorem dL_ask_410 : decode cL_ask 410 = .ok (.iaload, 1) := by decide +kernel
theorem dL_ask_411 : decode cL_ask 411 = .ok (.invokevirtual 57, 3) := by decide +kernel
theorem dL_ask_414 : decode cL_ask 414 = .ok (.ireturn, 1) := by decide +kernel
theorem dL_ask_415 : decode cL_ask 415 = .ok (.aload_n 0, 1) := by decide +kernel
theorem dL_ask_416 : decode cL_ask 416 = .ok (.aload_n 2, 1) := by decide +kernel
theorem dL_ask_417 : decode cL_ask 417 = .ok (.iconst 0, 1) := by decide +kernel
theorem dL_ask_418 : decode cL_ask 418 = .ok (.iaload, 1) := by decide +kernel
theorem dL_ask_419 : decode cL_ask 419 = .ok (.aload_n 2, 1) := by decide +kernel
theorem dL_ask_420 : decode cL_ask 420 = .ok (.iconst 1, 1) := by decide +kernel
theorem dL_ask_421 : decode cL_ask 421 = .ok (.iaload, 1) := by decide +kernel
theorem dL_ask_422 : decode cL_ask 422 = .ok (.invokevirtual 60, 3) := by decide +kernel
theorem dL_ask_425 : decode cL_ask 425 = .ok (.ireturn, 1) := by decide +kernel
theorem dL_ask_426 : decode cL_ask 426 = .ok (.aload_n 0, 1) := by decide +kernel
theorem dL_ask_427 : decode cL_ask 427 = .ok (.aload_n 2, 1) := by decide +kernel
theorem dL_ask_428 : decode cL_ask 428 = .ok (.iconst 0, 1) := by decide +kernel
theorem dL_ask_429 : decode cL_ask 429 = .ok (.iaload, 1) := by decide +kernel
theorem dL_ask_430 : decode cL_ask 430 = .ok (.invokevirtual 63, 3) := by decide +kernel
theorem dL_ask_433 : decode cL_ask 433 = .ok (.ireturn, 1) := by decide +kernel
theorem dL_ask_434 : decode cL_ask 434 = .ok (.aload_n 0, 1) := by decide +kernel
theorem dL_ask_435 : decode cL_ask 435 = .ok (.aload_n 2, 1) := by decide +kernel
theorem dL_ask_436 : decode cL_ask 436 = .ok (.iconst 0, 1) := by decide +kernel
theorem dL_ask_437 : decode cL_ask 437 = .ok (.iaload, 1) := by decide +kernel
theorem dL_ask_438 : decode cL_ask 438 = .ok (.aload_n 2, 1) := by decide +kernel
theorem dL_ask_439 : decode cL_ask 439 = .ok (.iconst 1, 1) := by decide +kernel
theorem dL_ask_440 : decode cL_ask 440 = .ok (.iaload, 1) := by decide +kernel
theorem dL_ask_441 : decode cL_ask 441 = .ok (.aload_n 2, 1) := by decide +kernel
theorem dL_ask_442 : decode cL_ask 442 = .ok (.iconst 2, 1) := by decide +kernel
theorem dL_ask_443 : decode cL_ask 443 = .ok (.iaload, 1) := by decide +kernel
theorem dL_ask_444 : decode cL_ask 444 = .ok (.aload_n 2, 1) := by decide +kernel
theorem dL_ask_445 : decode cL_ask 445 = .ok (.iconst 3, 1) := by decide +kernel
theorem dL_ask_446 : decode cL_ask 446 = .ok (.iaload, 1) := by decide +kernel
theorem dL_ask_447 : decode cL_ask 447 = .ok (.i2c, 1) := by decide +kernel
theorem dL_ask_448 : decode cL_ask 448 = .ok (.aload_n 2, 1) := by decide +kernel
theorem dL_ask_449 : decode cL_ask 449 = .ok (.iconst 4, 1) := by decide +kernel
theorem dL_ask_450 : decode cL_ask 450 = .ok (.iaload, 1) := by decide +kernel
theorem dL_ask_451 : decode cL_ask 451 = .ok (.invokevirtual 66, 3) := by decide +kernel
theorem dL_ask_454 : decode cL_ask 454 = .ok (.ireturn, 1) := by decide +kernel
theorem dL_ask_455 : decode cL_ask 455 = .ok (.aload_n 0, 1) := by decide +kernel
theorem dL_ask_456 : decode cL_ask 456 = .ok (.aload_n 2, 1) := by decide +kernel
theorem dL_ask_457 : decode cL_ask 457 = .ok (.iconst 0, 1) := by decide +kernel
theorem dL_ask_458 : decode cL_ask 458 = .ok (.iaload, 1) := by decide +kernel
theorem dL_ask_459 : decode cL_ask 459 = .ok (.aload_n 2, 1) := by decide +kernel
theorem dL_ask_460 : decode cL_ask 460 = .ok (.iconst 1, 1) := by decide +kernel
theorem dL_ask_461 : decode cL_ask 461 = .ok (.iaload, 1) := by decide +kernel
theorem dL_ask_462 : decode cL_ask 462 = .ok (.aload_n 2, 1) := by decide +kernel
theorem dL_ask_463 : decode cL_ask 463 = .ok (.iconst 2, 1) := by decide +kernel
theorem dL_ask_464 : decode cL_ask 464 = .ok (.iaload, 1) := by decide +kernel
theorem dL_ask_465 : decode cL_ask 465 = .ok (.aload_n 2, 1) := by decide +kernel
theorem dL_ask_466 : decode cL_ask 466 = .ok (.iconst 3, 1) := by decide +kernel
theorem dL_ask_467 : decode cL_ask 467 = .ok (.iaload, 1) := by decide +kernel
theorem dL_ask_468 : decode cL_ask 468 = .ok (.i2c, 1) := by decide +kernel
theorem dL_ask_469 : decode cL_ask 469 = .ok (.invokevirtual 70, 3) := by decide +kernel
theorem dL_ask_472 : decode cL_ask 472 = .ok (.ireturn, 1) := by decide +kernel
theorem dL_ask_473 : decode cL_ask 473 = .ok (.aload_n 0, 1) := by decide +kernel
theorem dL_ask_474 : decode cL_ask 474 = .ok (.aload_n 2, 1) := by decide +kernel
theorem dL_ask_475 : decode cL_ask 475 = .ok (.iconst 0, 1) := by decide +kernel
theorem dL_ask_476 : decode cL_ask 476 = .ok (.iaload, 1) := by decide +kernel
theorem dL_ask_477 : decode cL_ask 477 = .ok (.aload_n 2, 1) := by decide +kernel
theorem dL_ask_478 : decode cL_ask 478 = .ok (.iconst 1, 1) := by decide +kernel
theorem dL_ask_479 : decode cL_ask 479 = .ok (.iaload, 1) := by decide +kernel
theorem dL_ask_480 : decode cL_ask 480 = .ok (.invokevirtual 74, 3) := by decide +kernel
theorem dL_ask_483 : decode cL_ask 483 = .ok (.ireturn, 1) := by decide +kernel
theorem dL_ask_484 : decode cL_ask 484 = .ok (.aload_n 0, 1) := by decide +kernel
theorem dL_ask_485 : decode cL_ask 485 = .ok (.aload_n 2, 1) := by decide +kernel
theorem dL_ask_486 : decode cL_ask 486 = .ok (.iconst 0, 1) := by decide +kernel
theorem dL_ask_487 : decode cL_ask 487 = .ok (.iaload, 1) := by decide +kernel
theorem dL_ask_488 : decode cL_ask 488 = .ok (.i2c, 1) := by decide +kernel
theorem dL_ask_489 : decode cL_ask 489 = .ok (.invokevirtual 77, 3) := by decide +kernel
theorem dL_ask_492 : decode cL_ask 492 = .ok (.ireturn, 1) := by decide +kernel
theorem dL_ask_493 : decode cL_ask 493 = .ok (.aload_n 0, 1) := by decide +kernel
theorem dL_ask_494 : decode cL_ask 494 = .ok (.aload_n 2, 1) := by decide +kernel
theorem dL_ask_495 : decode cL_ask 495 = .ok (.iconst 0, 1) := by decide +kernel
theorem dL_ask_496 : decode cL_ask 496 = .ok (.iaload, 1) := by decide +kernel
theorem dL_ask_497 : decode cL_ask 497 = .ok (.i2c, 1) := by decide +kernel
theorem dL_ask_498 : decode cL_ask 498 = .ok (.aload_n 2, 1) := by decide +kernel
theorem dL_ask_499 : decode cL_ask 499 = .ok (.iconst 1, 1) := by decide +kernel
theorem dL_ask_500 : decode cL_ask 500 = .ok (.iaload, 1) := by decide +kernel
theorem dL_ask_501 : decode cL_ask 501 = .ok (.invokevirtual 81, 3) := by decide +kernel
theorem dL_ask_504 : decode cL_ask 504 = .ok (.ireturn, 1) := by decide +kernel
theorem dL_ask_505 : decode cL_ask 505 = .ok (.aload_n 0, 1) := by decide +kernel
theorem dL_ask_506 : decode cL_ask 506 = .ok (.aload_n 2, 1) := by decide +kernel
theorem dL_ask_507 : decode cL_ask 507 = .ok (.iconst 0, 1) := by decide +kernel
theorem dL_ask_508 : decode cL_ask 508 = .ok (.iaload, 1) := by decide +kernel
theorem dL_ask_509 : decode cL_ask 509 = .ok (.i2c, 1) := by decide +kernel
theorem dL_ask_510 : decode cL_ask 510 = .ok (.invokevirtual 85, 3) := by decide +kernel
theorem dL_ask_513 : decode cL_ask 513 = .ok (.ireturn, 1) := by decide +kernel
theorem dL_ask_514 : decode cL_ask 514 = .ok (.aload_n 0, 1) := by decide +kernel
theorem dL_ask_515 : decode cL_ask 515 = .ok (.aload_n 2, 1) := by decide +kernel
theorem dL_ask_516 : decode cL_ask 516 = .ok (.iconst 0, 1) := by decide +kernel
theorem dL_ask_517 : decode cL_ask 517 = .ok (.iaload, 1) := by decide +kernel
theorem dL_ask_518 : decode cL_ask 518 = .ok (.aload_n 2, 1) := by decide +kernel
theorem dL_ask_519 : decode cL_ask 519 = .ok (.iconst 1, 1) := by decide +kernel
theorem dL_ask_520 : decode cL_ask 520 = .ok (.iaload, 1) := by decide +kernel
theorem dL_ask_521 : decode cL_ask 521 = .ok (.invokevirtual 88, 3) := by decide +kernel
theorem dL_ask_524 : decode cL_ask 524 = .ok (.ifCond .eq 7, 3) := by decide +kernel
theorem dL_ask_527 : decode cL_ask 527 = .ok (.iconst 1, 1) := by decide +kernel
theorem dL_ask_528 : decode cL_ask 528 = .ok (.goto 4, 3) := by decide +kernel
theorem dL_ask_531 : decode cL_ask 531 = .ok (.iconst 0, 1) := by decide +kernel
theorem dL_ask_532 : decode cL_ask 532 = .ok (.ireturn, 1) := by decide +kernel
theorem dL_ask_533 : decode cL_ask 533 = .ok (.aload_n 0, 1) := by decide +kernel
theorem dL_ask_534 : decode cL_ask 534 = .ok (.aload_n 2, 1) := by decide +kernel
theorem dL_ask_535 : decode cL_ask 535 = .ok (.iconst 0, 1) := by decide +kernel
theorem dL_ask_536 : decode cL_ask 536 = .ok (.iaload, 1) := by decide +kernel
theorem dL_ask_537 : decode cL_ask 537 = .ok (.aload_n 2, 1) := by decide +kernel
theorem dL_ask_538 : decode cL_ask 538 = .ok (.iconst 1, 1) := by decide +kernel
theorem dL_ask_539 : decode cL_ask 539 = .ok (.iaload, 1) := by decide +kernel
theorem dL_ask_540 : decode cL_ask 540 = .ok (.invokevirtual 92, 3) := by decide +kernel
theorem dL_ask_543 : decode cL_ask 543 = .ok (.ifCond .eq 7, 3) := by decide +kernel
theorem dL_ask_546 : decode cL_ask 546 = .ok (.iconst 1, 1) := by decide +kernel
theorem dL_ask_547 : decode cL_ask 547 = .ok (.goto 4, 3) := by decide +kernel
theorem dL_ask_550 : decode cL_ask 550 = .ok (.iconst 0, 1) := by decide +kernel
theorem dL_ask_551 : decode cL_ask 551 = .ok (.ireturn, 1) := by decide +kernel
theorem dL_ask_552 : decode cL_ask 552 = .ok (.aload_n 0, 1) := by decide +kernel
theorem dL_ask_553 : decode cL_ask 553 = .ok (.aload_n 2, 1) := by decide +kernel
theorem dL_ask_554 : decode cL_ask 554 = .ok (.iconst 0, 1) := by decide +kernel
theorem dL_ask_555 : decode cL_ask 555 = .ok (.iaload, 1) := by decide +kernel
theorem dL_ask_556 : decode cL_ask 556 = .ok (.invokevirtual 95, 3) := by decide +kernel
theorem dL_ask_559 : decode cL_ask 559 = .ok (.ireturn, 1) := by decide +kernel
theorem dL_ask_560 : decode cL_ask 560 = .ok (.aload_n 0, 1) := by decide +kernel
theorem dL_ask_561 : decode cL_ask 561 = .ok (.aload_n 2, 1) := by decide +kernel
theorem dL_ask_562 : decode cL_ask 562 = .ok (.iconst 0, 1) := by decide +kernel
theorem dL_ask_563 : decode cL_ask 563 = .ok (.iaload, 1) := by decide +kernel
theorem dL_ask_564 : decode cL_ask 564 = .ok (.aload_n 2, 1) := by decide +kernel
theorem dL_ask_565 : decode cL_ask 565 = .ok (.iconst 1, 1) := by decide +kernel
theorem dL_ask_566 : decode cL_ask 566 = .ok (.iaload, 1) := by decide +kernel
theorem dL_ask_567 : decode cL_ask 567 = .ok (.aload_n 2, 1) := by decide +kernel
theorem dL_ask_568 : decode cL_ask 568 = .ok (.iconst 2, 1) := by decide +kernel
theorem dL_ask_569 : decode cL_ask 569 = .ok (.iaload, 1) := by decide +kernel
theorem dL_ask_570 : decode cL_ask 570 = .ok (.iconst 1, 1) := by decide +kernel
theorem dL_ask_571 : decode cL_ask 571 = .ok (.if_icmp .ne 7, 3) := by decide +kernel
theorem dL_ask_574 : decode cL_ask 574 = .ok (.iconst 1, 1) := by decide +kernel
theorem dL_ask_575 : decode cL_ask 575 = .ok (.goto 4, 3) := by decide +kernel
theorem dL_ask_578 : decode cL_ask 578 = .ok (.iconst 0, 1) := by decide +kernel
theorem dL_ask_579 : decode cL_ask 579 = .ok (.invokevirtual 98, 3) := by decide +kernel
theorem dL_ask_582 : decode cL_ask 582 = .ok (.ifCond .eq 7, 3) := by decide +kernel
theorem dL_ask_585 : decode cL_ask 585 = .ok (.iconst 1, 1) := by decide +kernel
theorem dL_ask_586 : decode cL_ask 586 = .ok (.goto 4, 3) := by decide +kernel
theorem dL_ask_589 : decode cL_ask 589 = .ok (.iconst 0, 1) := by decide +kernel
theorem dL_ask_590 : decode cL_ask 590 = .ok (.ireturn, 1) := by decide +kernel
theorem dL_ask_591 : decode cL_ask 591 = .ok (.aload_n 0, 1) := by decide +kernel
theorem dL_ask_592 : decode cL_ask 592 = .ok (.aload_n 2, 1) := by decide +kernel
theorem dL_ask_593 : decode cL_ask 593 = .ok (.iconst 0, 1) := by decide +kernel
theorem dL_ask_594 : decode cL_ask 594 = .ok (.iaload, 1) := by decide +kernel
theorem dL_ask_595 : decode cL_ask 595 = .ok (.aload_n 2, 1) := by decide +kernel
theorem dL_ask_596 : decode cL_ask 596 = .ok (.iconst 1, 1) := by decide +kernel
theorem dL_ask_597 : decode cL_ask 597 = .ok (.iaload, 1) := by decide +kernel
theorem dL_ask_598 : decode cL_ask 598 = .ok (.invokevirtual 102, 3) := by decide +kernel
theorem dL_ask_601 : decode cL_ask 601 = .ok (.ireturn, 1) := by decide +kernel
theorem dL_ask_602 : decode cL_ask 602 = .ok (.astore_n 3, 1) := by decide +kernel
theorem dL_ask_603 : decode cL_ask 603 = .ok (.ldc 109, 2) := by decide +kernel
theorem dL_ask_605 : decode cL_ask 605 = .ok (.ireturn, 1) := by decide +kernel
theorem dL_ask_606 : decode cL_ask 606 = .ok (.astore_n 3, 1) := by decide +kernel
theorem dL_ask_607 : decode cL_ask 607 = .ok (.ldc 112, 2) := by decide +kernel
theorem dL_ask_609 : decode cL_ask 609 = .ok (.ireturn, 1) := by decide +kernel
theorem dL_ask_610 : decode cL_ask 610 = .ok (.astore_n 3, 1) := by decide +kernel
theorem dL_ask_611 : decode cL_ask 611 = .ok (.ldc 115, 2) := by decide +kernel
theorem dL_ask_613 : decode cL_ask 613 = .ok (.ireturn, 1) := by decide +kernel
theorem dL_ask_614 : decode cL_ask 614 = .ok (.astore_n 3, 1) := by decide +kernel
theorem dL_ask_615 : decode cL_ask 615 = .ok (.ldc 118, 2) := by decide +kernel
theorem dL_ask_617 : decode cL_ask 617 = .ok (.ireturn, 1) := by decide +kernel
theorem dL_ask_618 : decode cL_ask 618 = .ok (.astore_n 3, 1) := by decide +kernel
theorem dL_ask_619 : decode cL_ask 619 = .ok (.ldc 121, 2) := by decide +kernel
theorem dL_ask_621 : decode cL_ask 621 = .ok (.ireturn, 1) := by decide +kernel
theorem dL_hasNone_0 : decode cL_hasNone 0 = .ok (.iload_n 1, 1) := by decide +kernel
theorem dL_hasNone_1 : decode cL_hasNone 1 = .ok (.ifCond .eq 11, 3) := by decide +kernel
theorem dL_hasNone_4 : decode cL_hasNone 4 = .ok (.aload_n 0, 1) := by decide +kernel
theorem dL_hasNone_5 : decode cL_hasNone 5 = .ok (.invokevirtual 122, 3) := by decide +kernel
theorem dL_hasNone_8 : decode cL_hasNone 8 = .ok (.f2d, 1) := by decide +kernel
theorem dL_hasNone_9 : decode cL_hasNone 9 = .ok (.goto 7, 3) := by decide +kernel
theorem dL_hasNone_12 : decode cL_hasNone 12 = .ok (.aload_n 0, 1) := by decide +kernel
theorem dL_hasNone_13 : decode cL_hasNone 13 = .ok (.invokevirtual 126, 3) := by decide +kernel
theorem dL_hasNone_16 : decode cL_hasNone 16 = .ok (.dstore_n 2, 1) := by decide +kernel
theorem dL_hasNone_17 : decode cL_hasNone 17 = .ok (.iconst 0, 1) := by decide +kernel
theorem dL_hasNone_18 : decode cL_hasNone 18 = .ok (.ireturn, 1) := by decide +kernel
theorem dL_hasNone_19 : decode cL_hasNone 19 = .ok (.astore_n 2, 1) := by decide +kernel
theorem dL_hasNone_20 : decode cL_hasNone 20 = .ok (.iconst 1, 1) := by decide +kernel
theorem dL_hasNone_21 : decode cL_hasNone 21 = .ok (.ireturn, 1) := by decide +kernel
theorem dL_law_0 : decode cL_law 0 = .ok (.new 8, 3) := by decide +kernel
theorem dL_law_3 : decode cL_law 3 = .ok (.dup, 1) := by decide +kernel
theorem dL_law_4 : decode cL_law 4 = .ok (.invokespecial 132, 3) := by decide +kernel
theorem dL_law_7 : decode cL_law 7 = .ok (.astore_n 1, 1) := by decide +kernel
theorem dL_law_8 : decode cL_law 8 = .ok (.aload_n 1, 1) := by decide +kernel
theorem dL_law_9 : decode cL_law 9 = .ok (.iconst 1, 1) := by decide +kernel
theorem dL_law_10 : decode cL_law 10 = .ok (.invokestatic 133, 3) := by decide +kernel
theorem dL_law_13 : decode cL_law 13 = .ok (.ifCond .eq 666, 3) := by decide +kernel
theorem dL_law_16 : decode cL_law 16 = .ok (.aload_n 1, 1) := by decide +kernel
theorem dL_law_17 : decode cL_law 17 = .ok (.iconst 0, 1) := by decide +kernel
theorem dL_law_18 : decode cL_law 18 = .ok (.invokestatic 133, 3) := by decide +kernel
theorem dL_law_21 : decode cL_law 21 = .ok (.ifCond .eq 658, 3) := by decide +kernel
theorem dL_law_24 : decode cL_law 24 = .ok (.aload_n 1, 1) := by decide +kernel
theorem dL_law_25 : decode cL_law 25 = .ok (.invokevirtual 137, 3) := by decide +kernel
theorem dL_law_28 : decode cL_law 28 = .ok (.ifCond .ne 651, 3) := by decide +kernel
theorem dL_law_31 : decode cL_law 31 = .ok (.aload_n 1, 1) := by decide +kernel
theorem dL_law_32 : decode cL_law 32 = .ok (.invokevirtual 140, 3) := by decide +kernel
theorem dL_law_35 : decode cL_law 35 = .ok (.ifCond .ne 644, 3) := by decide +kernel
theorem dL_law_38 : decode cL_law 38 = .ok (.aload_n 1, 1) := by decide +kernel
theorem dL_law_39 : decode cL_law 39 = .ok (.invokevirtual 143, 3) := by decide +kernel
theorem dL_law_42 : decode cL_law 42 = .ok (.iconst 1, 1) := by decide +kernel
theorem dL_law_43 : decode cL_law 43 = .ok (.if_icmp .ne 636, 3) := by decide +kernel
theorem dL_law_46 : decode cL_law 46 = .ok (.aload_n 1, 1) := by decide +kernel
theorem dL_law_47 : decode cL_law 47 = .ok (.invokevirtual 146, 3) := by decide +kernel
theorem dL_law_50 : decode cL_law 50 = .ok (.ifCond .ne 629, 3) := by decide +kernel
theorem dL_law_53 : decode cL_law 53 = .ok (.aload_n 1, 1) := by decide +kernel
theorem dL_law_54 : decode cL_law 54 = .ok (.invokevirtual 149, 3) := by decide +kernel
theorem dL_law_57 : decode cL_law 57 = .ok (.ifCond .eq 622, 3) := by decide +kernel
theorem dL_law_60 : decode cL_law 60 = .ok (.aload_n 1, 1) := by decide +kernel
theorem dL_law_61 : decode cL_law 61 = .ok (.bipush 82, 2) := by decide +kernel
theorem dL_law_63 : decode cL_law 63 = .ok (.iconst 1, 1) := by decide +kernel
theorem dL_law_64 : decode cL_law 64 = .ok (.newarray .int, 2) := by decide +kernel
theorem dL_law_66 : decode cL_law 66 = .ok (.dup, 1) := by decide +kernel
theorem dL_law_67 : decode cL_law 67 = .ok (.iconst 0, 1) := by decide +kernel
theorem dL_law_68 : decode cL_law 68 = .ok (.iconst 0, 1) := by decide +kernel
theorem dL_law_69 : decode cL_law 69 = .ok (.iastore, 1) := by decide +kernel
theorem dL_law_70 : decode cL_law 70 = .ok (.invokestatic 153, 3) := by decide +kernel
theorem dL_law_73 : decode cL_law 73 = .ok (.ldc 112, 2) := by decide +kernel
theorem dL_law_75 : decode cL_law 75 = .ok (.if_icmp .ne 604, 3) := by decide +kernel
theorem dL_law_78 : decode cL_law 78 = .ok (.aload_n 1, 1) := by decide +kernel
theorem dL_law_79 : decode cL_law 79 = .ok (.bipush 82, 2) := by decide +kernel
theorem dL_law_81 : decode cL_law 81 = .ok (.iconst 1, 1) := by decide +kernel
theorem dL_law_82 : decode cL_law 82 = .ok (.newarray .int, 2) := by decide +kernel
theorem dL_law_84 : decode cL_law 84 = .ok (.dup, 1) := by decide +kernel
theorem dL_law_85 : decode cL_law 85 = .ok (.iconst 0, 1) := by decide +kernel
theorem dL_law_86 : decode cL_law 86 = .ok (.bipush 7, 2) := by decide +kernel
theorem dL_law_88 : decode cL_law 88 = .ok (.iastore, 1) := by decide +kernel
theorem dL_law_89 : decode cL_law 89 = .ok (.invokestatic 153, 3) := by decide +kernel
theorem dL_law_92 : decode cL_law 92 = .ok (.ldc 112, 2) := by decide +kernel
theorem dL_law_94 : decode cL_law 94 = .ok (.if_icmp .ne 585, 3) := by decide +kernel
theorem dL_law_97 : decode cL_law 97 = .ok (.aload_n 1, 1) := by decide +kernel
theorem dL_law_98 : decode cL_law 98 = .ok (.bipush 79, 2) := by decide +kernel
theorem dL_law_100 : decode cL_law 100 = .ok (.iconst 4, 1) := by decide +kernel
theorem dL_law_101 : decode cL_law 101 = .ok (.newarray .int, 2) := by decide +kernel
theorem dL_law_103 : decode cL_law 103 = .ok (.dup, 1) := by decide +kernel
theorem dL_law_104 : decode cL_law 104 = .ok (.iconst 0, 1) := by decide +kernel
theorem dL_law_105 : decode cL_law 105 = .ok (.iconst 0, 1) := by decide +kernel
theorem dL_law_106 : decode cL_law 106 = .ok (.iastore, 1) := by decide +kernel
theorem dL_law_107 : decode cL_law 107 = .ok (.dup, 1) := by decide +kernel
theorem dL_law_108 : decode cL_law 108 = .ok (.iconst 1, 1) := by decide +kernel
theorem dL_law_109 : decode cL_law 109 = .ok (.bipush 9, 2) := by decide +kernel
theorem dL_law_111 : decode cL_law 111 = .ok (.iastore, 1) := by decide +kernel
theorem dL_law_112 : decode cL_law 112 = .ok (.dup, 1) := by decide +kernel
theorem dL_law_113 : decode cL_law 113 = .ok (.iconst 2, 1) := by decide +kernel
theorem dL_law_114 : decode cL_law 114 = .ok (.iconst 0, 1) := by decide +kernel
theorem dL_law_115 : decode cL_law 115 = .ok (.iastore, 1) := by decide +kernel
theorem dL_law_116 : decode cL_law 116 = .ok (.dup, 1) := by decide +kernel
theorem dL_law_117 : decode cL_law 117 = .ok (.iconst 3, 1) := by decide +kernel
theorem dL_law_118 : decode cL_law 118 = .ok (.iconst 0, 1) := by decide +kernel
theorem dL_law_119 : decode cL_law 119 = .ok (.iastore, 1) := by decide +kernel
theorem dL_law_120 : decode cL_law 120 = .ok (.invokestatic 153, 3) := by decide +kernel
theorem dL_law_123 : decode cL_law 123 = .ok (.ldc 109, 2) := by decide +kernel
theorem dL_law_125 : decode cL_law 125 = .ok (.if_icmp .ne 554, 3) := by decide +kernel
theorem dL_law_128 : decode cL_law 128 = .ok (.aload_n 1, 1) := by decide +kernel
theorem dL_law_129 : decode cL_law 129 = .ok (.bipush 98, 2) := by decide +kernel
theorem dL_law_131 : decode cL_law 131 = .ok (.iconst 3, 1) := by decide +kernel
theorem dL_law_132 : decode cL_law 132 = .ok (.newarray .int, 2) := by decide +kernel
theorem dL_law_134 : decode cL_law 134 = .ok (.dup, 1) := by decide +kernel
theorem dL_law_135 : decode cL_law 135 = .ok (.iconst 0, 1) := by decide +kernel
theorem dL_law_136 : decode cL_law 136 = .ok (.iconst 0, 1) := by decide +kernel
theorem dL_law_137 : decode cL_law 137 = .ok (.iastore, 1) := by decide +kernel
theorem dL_law_138 : decode cL_law 138 = .ok (.dup, 1) := by decide +kernel
theorem dL_law_139 : decode cL_law 139 = .ok (.iconst 1, 1) := by decide +kernel
theorem dL_law_140 : decode cL_law 140 = .ok (.iconst 0, 1) := by decide +kernel
theorem dL_law_141 : decode cL_law 141 = .ok (.iastore, 1) := by decide +kernel
theorem dL_law_142 : decode cL_law 142 = .ok (.dup, 1) := by decide +kernel
theorem dL_law_143 : decode cL_law 143 = .ok (.iconst 2, 1) := by decide +kernel
theorem dL_law_144 : decode cL_law 144 = .ok (.iconst 0, 1) := by decide +kernel
theorem dL_law_145 : decode cL_law 145 = .ok (.iastore, 1) := by decide +kernel
theorem dL_law_146 : decode cL_law 146 = .ok (.invokestatic 153, 3) := by decide +kernel
theorem dL_law_149 : decode cL_law 149 = .ok (.ldc 109, 2) := by decide +kernel
theorem dL_law_151 : decode cL_law 151 = .ok (.if_icmp .ne 528, 3) := by decide +kernel
theorem dL_law_154 : decode cL_law 154 = .ok (.aload_n 1, 1) := by decide +kernel
theorem dL_law_155 : decode cL_law 155 = .ok (.bipush 117, 2) := by decide +kernel
theorem dL_law_157 : decode cL_law 157 = .ok (.iconst 2, 1) := by decide +kernel
theorem dL_law_158 : decode cL_law 158 = .ok (.newarray .int, 2) := by decide +kernel
theorem dL_law_160 : decode cL_law 160 = .ok (.dup, 1) := by decide +kernel
theorem dL_law_161 : decode cL_law 161 = .ok (.iconst 0, 1) := by decide +kernel
theorem dL_law_162 : decode cL_law 162 = .ok (.iconst 0, 1) := by decide +kernel
theorem dL_law_163 : decode cL_law 163 = .ok (.iastore, 1) := by decide +kernel
theorem dL_law_164 : decode cL_law 164 = .ok (.dup, 1) := by decide +kernel
theorem dL_law_165 : decode cL_law 165 = .ok (.iconst 1, 1) := by decide +kernel
theorem dL_law_166 : decode cL_law 166 = .ok (.iconst 0, 1) := by decide +kernel
theorem dL_law_167 : decode cL_law 167 = .ok (.iastore, 1) := by decide +kernel
theorem dL_law_168 : decode cL_law 168 = .ok (.invokestatic 153, 3) := by decide +kernel
theorem dL_law_171 : decode cL_law 171 = .ok (.ldc 109, 2) := by decide +kernel
theorem dL_law_173 : decode cL_law 173 = .ok (.if_icmp .ne 506, 3) := by decide +kernel
theorem dL_law_176 : decode cL_law 176 = .ok (.aload_n 1, 1) := by decide +kernel
theorem dL_law_177 : decode cL_law 177 = .ok (.bipush 112, 2) := by decide +kernel
theorem dL_law_179 : decode cL_law 179 = .ok (.iconst 1, 1) := by decide +kernel
theorem dL_law_180 : decode cL_law 180 = .ok (.newarray .int, 2) := by decide +kernel
theorem dL_law_182 : decode cL_law 182 = .ok (.dup, 1) := by decide +kernel
theorem dL_law_183 : decode cL_law 183 = .ok (.iconst 0, 1) := by decide +kernel
theorem dL_law_184 : decode cL_law 184 = .ok (.iconst 0, 1) := by decide +kernel
theorem dL_law_185 : decode cL_law 185 = .ok (.iastore, 1) := by decide +kernel
theorem dL_law_186 : decode cL_law 186 = .ok (.invokestatic 153, 3) := by decide +kernel
theorem dL_law_189 : decode cL_law 189 = .ok (.ldc 109, 2) := by decide +kernel
theorem dL_law_191 : decode cL_law 191 = .ok (.if_icmp .ne 488, 3) := by decide +kernel
theorem dL_law_194 : decode cL_law 194 = .ok (.aload_n 1, 1) := by decide +kernel
theorem dL_law_195 : decode cL_law 195 = .ok (.bipush 115, 2) := by decide +kernel
theorem dL_law_197 : decode cL_law 197 = .ok (.iconst 3, 1) := by decide +kernel
theorem dL_law_198 : decode cL_law 198 = .ok (.newarray .int, 2) := by decide +kernel
theorem dL_law_200 : decode cL_law 200 = .ok (.dup, 1) := by decide +kernel
theorem dL_law_201 : decode cL_law 201 = .ok (.iconst 0, 1) := by decide +kernel
theorem dL_law_202 : decode cL_law 202 = .ok (.iconst 0, 1) := by decide +kernel
theorem dL_law_203 : decode cL_law 203 = .ok (.iastore, 1) := by decide +kernel
theorem dL_law_204 : decode cL_law 204 = .ok (.dup, 1) := by decide +kernel
theorem dL_law_205 : decode cL_law 205 = .ok (.iconst 1, 1) := by decide +kernel
theorem dL_law_206 : decode cL_law 206 = .ok (.iconst 0, 1) := by decide +kernel
theorem dL_law_207 : decode cL_law 207 = .ok (.iastore, 1) := by decide +kernel
theorem dL_law_208 : decode cL_law 208 = .ok (.dup, 1) := by decide +kernel
theorem dL_law_209 : decode cL_law 209 = .ok (.iconst 2, 1) := by decide +kernel
theorem dL_law_210 : decode cL_law 210 = .ok (.iconst 0, 1) := by decide +kernel
theorem dL_law_211 : decode cL_law 211 = .ok (.iastore, 1) := by decide +kernel
theorem dL_law_212 : decode cL_law 212 = .ok (.invokestatic 153, 3) := by decide +kernel
theorem dL_law_215 : decode cL_law 215 = .ok (.ldc 109, 2) := by decide +kernel
theorem dL_law_217 : decode cL_law 217 = .ok (.if_icmp .ne 462, 3) := by decide +kernel
theorem dL_law_220 : decode cL_law 220 = .ok (.aload_n 1, 1) := by decide +kernel
theorem dL_law_221 : decode cL_law 221 = .ok (.bipush 97, 2) := by decide +kernel
theorem dL_law_223 : decode cL_law 223 = .ok (.iconst 2, 1) := by decide +kernel
theorem dL_law_224 : decode cL_law 224 = .ok (.newarray .int, 2) := by decide +kernel
theorem dL_law_226 : decode cL_law 226 = .ok (.dup, 1) := by decide +kernel
theorem dL_law_227 : decode cL_law 227 = .ok (.iconst 0, 1) := by decide +kernel
theorem dL_law_228 : decode cL_law 228 = .ok (.iconst 0, 1) := by decide +kernel
theorem dL_law_229 : decode cL_law 229 = .ok (.iastore, 1) := by decide +kernel
theorem dL_law_230 : decode cL_law 230 = .ok (.dup, 1) := by decide +kernel
theorem dL_law_231 : decode cL_law 231 = .ok (.iconst 1, 1) := by decide +kernel
theorem dL_law_232 : decode cL_law 232 = .ok (.bipush 9, 2) := by decide +kernel
theorem dL_law_234 : decode cL_law 234 = .ok (.iastore, 1) := by decide +kernel
theorem dL_law_235 : decode cL_law 235 = .ok (.invokestatic 153, 3) := by decide +kernel
theorem dL_law_238 : decode cL_law 238 = .ok (.ldc 109, 2) := by decide +kernel
theorem dL_law_240 : decode cL_law 240 = .ok (.if_icmp .ne 439, 3) := by decide +kernel
theorem dL_law_243 : decode cL_law 243 = .ok (.aload_n 1, 1) := by decide +kernel
theorem dL_law_244 : decode cL_law 244 = .ok (.bipush 104, 2) := by decide +kernel
theorem dL_law_246 : decode cL_law 246 = .ok (.iconst 1, 1) := by decide +kernel
theorem dL_law_247 : decode cL_law 247 = .ok (.newarray .int, 2) := by decide +kernel
theorem dL_law_249 : decode cL_law 249 = .ok (.dup, 1) := by decide +kernel
theorem dL_law_250 : decode cL_law 250 = .ok (.iconst 0, 1) := by decide +kernel
theorem dL_law_251 : decode cL_law 251 = .ok (.iconst 0, 1) := by decide +kernel
theorem dL_law_252 : decode cL_law 252 = .ok (.iastore, 1) := by decide +kernel
theorem dL_law_253 : decode cL_law 253 = .ok (.invokestatic 153, 3) := by decide +kernel
theorem dL_law_256 : decode cL_law 256 = .ok (.ldc 109, 2) := by decide +kernel
theorem dL_law_258 : decode cL_law 258 = .ok (.if_icmp .ne 421, 3) := by decide +kernel
theorem dL_law_261 : decode cL_law 261 = .ok (.aload_n 1, 1) := by decide +kernel
theorem dL_law_262 : decode cL_law 262 = .ok (.bipush 72, 2) := by decide +kernel
theorem dL_law_264 : decode cL_law 264 = .ok (.iconst 2, 1) := by decide +kernel
theorem dL_law_265 : decode cL_law 265 = .ok (.newarray .int, 2) := by decide +kernel
theorem dL_law_267 : decode cL_law 267 = .ok (.dup, 1) := by decide +kernel
theorem dL_law_268 : decode cL_law 268 = .ok (.iconst 0, 1) := by decide +kernel
theorem dL_law_269 : decode cL_law 269 = .ok (.iconst 0, 1) := by decide +kernel
theorem dL_law_270 : decode cL_law 270 = .ok (.iastore, 1) := by decide +kernel
theorem dL_law_271 : decode cL_law 271 = .ok (.dup, 1) := by decide +kernel
theorem dL_law_272 : decode cL_law 272 = .ok (.iconst 1, 1) := by decide +kernel
theorem dL_law_273 : decode cL_law 273 = .ok (.iconst 0, 1) := by decide +kernel
theorem dL_law_274 : decode cL_law 274 = .ok (.iastore, 1) := by decide +kernel
theorem dL_law_275 : decode cL_law 275 = .ok (.invokestatic 153, 3) := by decide +kernel
theorem dL_law_278 : decode cL_law 278 = .ok (.ldc 109, 2) := by decide +kernel
theorem dL_law_280 : decode cL_law 280 = .ok (.if_icmp .ne 399, 3) := by decide +kernel
theorem dL_law_283 : decode cL_law 283 = .ok (.aload_n 1, 1) := by decide +kernel
theorem dL_law_284 : decode cL_law 284 = .ok (.bipush 100, 2) := by decide +kernel
theorem dL_law_286 : decode cL_law 286 = .ok (.iconst 2, 1) := by decide +kernel
theorem dL_law_287 : decode cL_law 287 = .ok (.newarray .int, 2) := by decide +kernel
theorem dL_law_289 : decode cL_law 289 = .ok (.dup, 1) := by decide +kernel
theorem dL_law_290 : decode cL_law 290 = .ok (.iconst 0, 1) := by decide +kernel
theorem dL_law_291 : decode cL_law 291 = .ok (.iconst 0, 1) := by decide +kernel
theorem dL_law_292 : decode cL_law 292 = .ok (.iastore, 1) := by decide +kernel
theorem dL_law_293 : decode cL_law 293 = .ok (.dup, 1) := by decide +kernel
theorem dL_law_294 : decode cL_law 294 = .ok (.iconst 1, 1) := by decide +kernel
theorem dL_law_295 : decode cL_law 295 = .ok (.iconst 0, 1) := by decide +kernel
theorem dL_law_296 : decode cL_law 296 = .ok (.iastore, 1) := by decide +kernel
theorem dL_law_297 : decode cL_law 297 = .ok (.invokestatic 153, 3) := by decide +kernel
theorem dL_law_300 : decode cL_law 300 = .ok (.ldc 109, 2) := by decide +kernel
theorem dL_law_302 : decode cL_law 302 = .ok (.if_icmp .ne 377, 3) := by decide +kernel
theorem dL_law_305 : decode cL_law 305 = .ok (.aload_n 1, 1) := by decide +kernel
theorem dL_law_306 : decode cL_law 306 = .ok (.bipush 119, 2) := by decide +kernel
theorem dL_law_308 : decode cL_law 308 = .ok (.iconst 1, 1) := by decide +kernel
theorem dL_law_309 : decode cL_law 309 = .ok (.newarray .int, 2) := by decide +kernel
theorem dL_law_311 : decode cL_law 311 = .ok (.dup, 1) := by decide +kernel
theorem dL_law_312 : decode cL_law 312 = .ok (.iconst 0, 1) := by decide +kernel
theorem dL_law_313 : decode cL_law 313 = .ok (.iconst 0, 1) := by decide +kernel
theorem dL_law_314 : decode cL_law 314 = .ok (.iastore, 1) := by decide +kernel
theorem dL_law_315 : decode cL_law 315 = .ok (.invokestatic 153, 3) := by decide +kernel
theorem dL_law_318 : decode cL_law 318 = .ok (.ldc 109, 2) := by decide +kernel
theorem dL_law_320 : decode cL_law 320 = .ok (.if_icmp .ne 359, 3) := by decide +kernel
theorem dL_law_323 : decode cL_law 323 = .ok (.aload_n 1, 1) := by decide +kernel
theorem dL_law_324 : decode cL_law 324 = .ok (.bipush 87, 2) := by decide +kernel
theorem dL_law_326 : decode cL_law 326 = .ok (.iconst 2, 1) := by decide +kernel
theorem dL_law_327 : decode cL_law 327 = .ok (.newarray .int, 2) := by decide +kernel
theorem dL_law_329 : decode cL_law 329 = .ok (.dup, 1) := by decide +kernel
theorem dL_law_330 : decode cL_law 330 = .ok (.iconst 0, 1) := by decide +kernel
theorem dL_law_331 : decode cL_law 331 = .ok (.iconst 0, 1) := by decide +kernel
theorem dL_law_332 : decode cL_law 332 = .ok (.iastore, 1) := by decide +kernel
theorem dL_law_333 : decode cL_law 333 = .ok (.dup, 1) := by decide +kernel
theorem dL_law_334 : decode cL_law 334 = .ok (.iconst 1, 1) := by decide +kernel
theorem dL_law_335 : decode cL_law 335 = .ok (.iconst 0, 1) := by decide +kernel
theorem dL_law_336 : decode cL_law 336 = .ok (.iastore, 1) := by decide +kernel
theorem dL_law_337 : decode cL_law 337 = .ok (.invokestatic 153, 3) := by decide +kernel
theorem dL_law_340 : decode cL_law 340 = .ok (.ldc 109, 2) := by decide +kernel
theorem dL_law_342 : decode cL_law 342 = .ok (.if_icmp .ne 337, 3) := by decide +kernel
theorem dL_law_345 : decode cL_law 345 = .ok (.aload_n 1, 1) := by decide +kernel
theorem dL_law_346 : decode cL_law 346 = .ok (.bipush 103, 2) := by decide +kernel
theorem dL_law_348 : decode cL_law 348 = .ok (.iconst 2, 1) := by decide +kernel
theorem dL_law_349 : decode cL_law 349 = .ok (.newarray .int, 2) := by decide +kernel
theorem dL_law_351 : decode cL_law 351 = .ok (.dup, 1) := by decide +kernel
theorem dL_law_352 : decode cL_law 352 = .ok (.iconst 0, 1) := by decide +kernel
theorem dL_law_353 : decode cL_law 353 = .ok (.iconst 0, 1) := by decide +kernel
theorem dL_law_354 : decode cL_law 354 = .ok (.iastore, 1) := by decide +kernel
theorem dL_law_355 : decode cL_law 355 = .ok (.dup, 1) := by decide +kernel
theorem dL_law_356 : decode cL_law 356 = .ok (.iconst 1, 1) := by decide +kernel
theorem dL_law_357 : decode cL_law 357 = .ok (.iconst 0, 1) := by decide +kernel
theorem dL_law_358 : decode cL_law 358 = .ok (.iastore, 1) := by decide +kernel
theorem dL_law_359 : decode cL_law 359 = .ok (.invokestatic 153, 3) := by decide +kernel
theorem dL_law_362 : decode cL_law 362 = .ok (.ldc 109, 2) := by decide +kernel
theorem dL_law_364 : decode cL_law 364 = .ok (.if_icmp .ne 315, 3) := by decide +kernel
theorem dL_law_367 : decode cL_law 367 = .ok (.aload_n 1, 1) := by decide +kernel
theorem dL_law_368 : decode cL_law 368 = .ok (.bipush 109, 2) := by decide +kernel
theorem dL_law_370 : decode cL_law 370 = .ok (.iconst 2, 1) := by decide +kernel
theorem dL_law_371 : decode cL_law 371 = .ok (.newarray .int, 2) := by decide +kernel
theorem dL_law_373 : decode cL_law 373 = .ok (.dup, 1) := by decide +kernel
theorem dL_law_374 : decode cL_law 374 = .ok (.iconst 0, 1) := by decide +kernel
theorem dL_law_375 : decode cL_law 375 = .ok (.iconst 0, 1) := by decide +kernel
theorem dL_law_376 : decode cL_law 376 = .ok (.iastore, 1) := by decide +kernel
theorem dL_law_377 : decode cL_law 377 = .ok (.dup, 1) := by decide +kernel
theorem dL_law_378 : decode cL_law 378 = .ok (.iconst 1, 1) := by decide +kernel
theorem dL_law_379 : decode cL_law 379 = .ok (.bipush 9, 2) := by decide +kernel
theorem dL_law_381 : decode cL_law 381 = .ok (.iastore, 1) := by decide +kernel
theorem dL_law_382 : decode cL_law 382 = .ok (.invokestatic 153, 3) := by decide +kernel
theorem dL_law_385 : decode cL_law 385 = .ok (.ldc 109, 2) := by decide +kernel
theorem dL_law_387 : decode cL_law 387 = .ok (.if_icmp .ne 292, 3) := by decide +kernel
theorem dL_law_390 : decode cL_law 390 = .ok (.aload_n 1, 1) := by decide +kernel
theorem dL_law_391 : decode cL_law 391 = .ok (.bipush 108, 2) := by decide +kernel
theorem dL_law_393 : decode cL_law 393 = .ok (.iconst 1, 1) := by decide +kernel
theorem dL_law_394 : decode cL_law 394 = .ok (.newarray .int, 2) := by decide +kernel
theorem dL_law_396 : decode cL_law 396 = .ok (.dup, 1) := by decide +kernel
theorem dL_law_397 : decode cL_law 397 = .ok (.iconst 0, 1) := by decide +kernel
theorem dL_law_398 : decode cL_law 398 = .ok (.iconst 0, 1) := by decide +kernel
theorem dL_law_399 : decode cL_law 399 = .ok (.iastore, 1) := by decide +kernel
theorem dL_law_400 : decode cL_law 400 = .ok (.invokestatic 153, 3) := by decide +kernel
theorem dL_law_403 : decode cL_law 403 = .ok (.ldc 109, 2) := by decide +kernel
theorem dL_law_405 : decode cL_law 405 = .ok (.if_icmp .ne 274, 3) := by decide +kernel
theorem dL_law_408 : decode cL_law 408 = .ok (.aload_n 1, 1) := by decide +kernel
theorem dL_law_409 : decode cL_law 409 = .ok (.bipush 120, 2) := by decide +kernel
theorem dL_law_411 : decode cL_law 411 = .ok (.iconst 5, 1) := by decide +kernel
theorem dL_law_412 : decode cL_law 412 = .ok (.newarray .int, 2) := by decide +kernel
theorem dL_law_414 : decode cL_law 414 = .ok (.dup, 1) := by decide +kernel
theorem dL_law_415 : decode cL_law 415 = .ok (.iconst 0, 1) := by decide +kernel
theorem dL_law_416 : decode cL_law 416 = .ok (.iconst 0, 1) := by decide +kernel
theorem dL_law_417 : decode cL_law 417 = .ok (.iastore, 1) := by decide +kernel
theorem dL_law_418 : decode cL_law 418 = .ok (.dup, 1) := by decide +kernel
theorem dL_law_419 : decode cL_law 419 = .ok (.iconst 1, 1) := by decide +kernel
theorem dL_law_420 : decode cL_law 420 = .ok (.iconst 0, 1) := by decide +kernel
theorem dL_law_421 : decode cL_law 421 = .ok (.iastore, 1) := by decide +kernel
theorem dL_law_422 : decode cL_law 422 = .ok (.dup, 1) := by decide +kernel
theorem dL_law_423 : decode cL_law 423 = .ok (.iconst 2, 1) := by decide +kernel
theorem dL_law_424 : decode cL_law 424 = .ok (.iconst 0, 1) := by decide +kernel
theorem dL_law_425 : decode cL_law 425 = .ok (.iastore, 1) := by decide +kernel
theorem dL_law_426 : decode cL_law 426 = .ok (.dup, 1) := by decide +kernel
theorem dL_law_427 : decode cL_law 427 = .ok (.iconst 3, 1) := by decide +kernel
theorem dL_law_428 : decode cL_law 428 = .ok (.bipush 122, 2) := by decide +kernel
theorem dL_law_430 : decode cL_law 430 = .ok (.iastore, 1) := by decide +kernel
theorem dL_law_431 : decode cL_law 431 = .ok (.dup, 1) := by decide +kernel
theorem dL_law_432 : decode cL_law 432 = .ok (.iconst 4, 1) := by decide +kernel
theorem dL_law_433 : decode cL_law 433 = .ok (.iconst 0, 1) := by decide +kernel
theorem dL_law_434 : decode cL_law 434 = .ok (.iastore, 1) := by decide +kernel
theorem dL_law_435 : decode cL_law 435 = .ok (.invokestatic 153, 3) := by decide +kernel
theorem dL_law_438 : decode cL_law 438 = .ok (.ldc 109, 2) := by decide +kernel
theorem dL_law_440 : decode cL_law 440 = .ok (.if_icmp .ne 239, 3) := by decide +kernel
theorem dL_law_443 : decode cL_law 443 = .ok (.aload_n 1, 1) := by decide +kernel
theorem dL_law_444 : decode cL_law 444 = .ok (.bipush 114, 2) := by decide +kernel
theorem dL_law_446 : decode cL_law 446 = .ok (.iconst 4, 1) := by decide +kernel
theorem dL_law_447 : decode cL_law 447 = .ok (.newarray .int, 2) := by decide +kernel
theorem dL_law_449 : decode cL_law 449 = .ok (.dup, 1) := by decide +kernel
theorem dL_law_450 : decode cL_law 450 = .ok (.iconst 0, 1) := by decide +kernel
theorem dL_law_451 : decode cL_law 451 = .ok (.iconst 3, 1) := by decide +kernel
theorem dL_law_452 : decode cL_law 452 = .ok (.iastore, 1) := by decide +kernel
theorem dL_law_453 : decode cL_law 453 = .ok (.dup, 1) := by decide +kernel
theorem dL_law_454 : decode cL_law 454 = .ok (.iconst 1, 1) := by decide +kernel
theorem dL_law_455 : decode cL_law 455 = .ok (.iconst 0, 1) := by decide +kernel
theorem dL_law_456 : decode cL_law 456 = .ok (.iastore, 1) := by decide +kernel
theorem dL_law_457 : decode cL_law 457 = .ok (.dup, 1) := by decide +kernel
theorem dL_law_458 : decode cL_law 458 = .ok (.iconst 2, 1) := by decide +kernel
theorem dL_law_459 : decode cL_law 459 = .ok (.iconst 0, 1) := by decide +kernel
theorem dL_law_460 : decode cL_law 460 = .ok (.iastore, 1) := by decide +kernel
theorem dL_law_461 : decode cL_law 461 = .ok (.dup, 1) := by decide +kernel
theorem dL_law_462 : decode cL_law 462 = .ok (.iconst 3, 1) := by decide +kernel
theorem dL_law_463 : decode cL_law 463 = .ok (.bipush 122, 2) := by decide +kernel
theorem dL_law_465 : decode cL_law 465 = .ok (.iastore, 1) := by decide +kernel
theorem dL_law_466 : decode cL_law 466 = .ok (.invokestatic 153, 3) := by decide +kernel
theorem dL_law_469 : decode cL_law 469 = .ok (.ldc 109, 2) := by decide +kernel
theorem dL_law_471 : decode cL_law 471 = .ok (.if_icmp .ne 208, 3) := by decide +kernel
theorem dL_law_474 : decode cL_law 474 = .ok (.aload_n 1, 1) := by decide +kernel
theorem dL_law_475 : decode cL_law 475 = .ok (.bipush 121, 2) := by decide +kernel
theorem dL_law_477 : decode cL_law 477 = .ok (.iconst 2, 1) := by decide +kernel
theorem dL_law_478 : decode cL_law 478 = .ok (.newarray .int, 2) := by decide +kernel
theorem dL_law_480 : decode cL_law 480 = .ok (.dup, 1) := by decide +kernel
theorem dL_law_481 : decode cL_law 481 = .ok (.iconst 0, 1) := by decide +kernel
theorem dL_law_482 : decode cL_law 482 = .ok (.iconst 0, 1) := by decide +kernel
theorem dL_law_483 : decode cL_law 483 = .ok (.iastore, 1) := by decide +kernel
theorem dL_law_484 : decode cL_law 484 = .ok (.dup, 1) := by decide +kernel
theorem dL_law_485 : decode cL_law 485 = .ok (.iconst 1, 1) := by decide +kernel
theorem dL_law_486 : decode cL_law 486 = .ok (.iconst 3, 1) := by decide +kernel
theorem dL_law_487 : decode cL_law 487 = .ok (.iastore, 1) := by decide +kernel
theorem dL_law_488 : decode cL_law 488 = .ok (.invokestatic 153, 3) := by decide +kernel
theorem dL_law_491 : decode cL_law 491 = .ok (.ldc 109, 2) := by decide +kernel
theorem dL_law_493 : decode cL_law 493 = .ok (.if_icmp .ne 186, 3) := by decide +kernel
theorem dL_law_496 : decode cL_law 496 = .ok (.aload_n 1, 1) := by decide +kernel
theorem dL_law_497 : decode cL_law 497 = .ok (.bipush 77, 2) := by decide +kernel
theorem dL_law_499 : decode cL_law 499 = .ok (.iconst 2, 1) := by decide +kernel
theorem dL_law_500 : decode cL_law 500 = .ok (.newarray .int, 2) := by decide +kernel
theorem dL_law_502 : decode cL_law 502 = .ok (.dup, 1) := by decide +kernel
theorem dL_law_503 : decode cL_law 503 = .ok (.iconst 0, 1) := by decide +kernel
theorem dL_law_504 : decode cL_law 504 = .ok (.iconst 0, 1) := by decide +kernel
theorem dL_law_505 : decode cL_law 505 = .ok (.iastore, 1) := by decide +kernel
theorem dL_law_506 : decode cL_law 506 = .ok (.dup, 1) := by decide +kernel
theorem dL_law_507 : decode cL_law 507 = .ok (.iconst 1, 1) := by decide +kernel
theorem dL_law_508 : decode cL_law 508 = .ok (.iconst 0, 1) := by decide +kernel
theorem dL_law_509 : decode cL_law 509 = .ok (.iastore, 1) := by decide +kernel
theorem dL_law_510 : decode cL_law 510 = .ok (.invokestatic 153, 3) := by decide +kernel
theorem dL_law_513 : decode cL_law 513 = .ok (.ldc 109, 2) := by decide +kernel
theorem dL_law_515 : decode cL_law 515 = .ok (.if_icmp .ne 164, 3) := by decide +kernel
theorem dL_law_518 : decode cL_law 518 = .ok (.aload_n 1, 1) := by decide +kernel
theorem dL_law_519 : decode cL_law 519 = .ok (.bipush 78, 2) := by decide +kernel
theorem dL_law_521 : decode cL_law 521 = .ok (.iconst 2, 1) := by decide +kernel
theorem dL_law_522 : decode cL_law 522 = .ok (.newarray .int, 2) := by decide +kernel
theorem dL_law_524 : decode cL_law 524 = .ok (.dup, 1) := by decide +kernel
theorem dL_law_525 : decode cL_law 525 = .ok (.iconst 0, 1) := by decide +kernel
theorem dL_law_526 : decode cL_law 526 = .ok (.iconst 0, 1) := by decide +kernel
theorem dL_law_527 : decode cL_law 527 = .ok (.iastore, 1) := by decide +kernel
theorem dL_law_528 : decode cL_law 528 = .ok (.dup, 1) := by decide +kernel
theorem dL_law_529 : decode cL_law 529 = .ok (.iconst 1, 1) := by decide +kernel
theorem dL_law_530 : decode cL_law 530 = .ok (.iconst 0, 1) := by decide +kernel
theorem dL_law_531 : decode cL_law 531 = .ok (.iastore, 1) := by decide +kernel
theorem dL_law_532 : decode cL_law 532 = .ok (.invokestatic 153, 3) := by decide +kernel
theorem dL_law_535 : decode cL_law 535 = .ok (.ldc 109, 2) := by decide +kernel
theorem dL_law_537 : decode cL_law 537 = .ok (.if_icmp .ne 142, 3) := by decide +kernel
theorem dL_law_540 : decode cL_law 540 = .ok (.aload_n 1, 1) := by decide +kernel
theorem dL_law_541 : decode cL_law 541 = .ok (.bipush 99, 2) := by decide +kernel
theorem dL_law_543 : decode cL_law 543 = .ok (.iconst 1, 1) := by decide +kernel
theorem dL_law_544 : decode cL_law 544 = .ok (.newarray .int, 2) := by decide +kernel
theorem dL_law_546 : decode cL_law 546 = .ok (.dup, 1) := by decide +kernel
theorem dL_law_547 : decode cL_law 547 = .ok (.iconst 0, 1) := by decide +kernel
theorem dL_law_548 : decode cL_law 548 = .ok (.bipush 6, 2) := by decide +kernel
theorem dL_law_550 : decode cL_law 550 = .ok (.iastore, 1) := by decide +kernel
theorem dL_law_551 : decode cL_law 551 = .ok (.invokestatic 153, 3) := by decide +kernel
theorem dL_law_554 : decode cL_law 554 = .ok (.ldc 112, 2) := by decide +kernel
theorem dL_law_556 : decode cL_law 556 = .ok (.if_icmp .ne 123, 3) := by decide +kernel
theorem dL_law_559 : decode cL_law 559 = .ok (.aload_n 1, 1) := by decide +kernel
theorem dL_law_560 : decode cL_law 560 = .ok (.bipush 99, 2) := by decide +kernel
theorem dL_law_562 : decode cL_law 562 = .ok (.iconst 1, 1) := by decide +kernel
theorem dL_law_563 : decode cL_law 563 = .ok (.newarray .int, 2) := by decide +kernel
theorem dL_law_565 : decode cL_law 565 = .ok (.dup, 1) := by decide +kernel
theorem dL_law_566 : decode cL_law 566 = .ok (.iconst 0, 1) := by decide +kernel
theorem dL_law_567 : decode cL_law 567 = .ok (.iconst (-1), 1) := by decide +kernel
theorem dL_law_568 : decode cL_law 568 = .ok (.iastore, 1) := by decide +kernel
theorem dL_law_569 : decode cL_law 569 = .ok (.invokestatic 153, 3) := by decide +kernel
theorem dL_law_572 : decode cL_law 572 = .ok (.ldc 112, 2) := by decide +kernel
theorem dL_law_574 : decode cL_law 574 = .ok (.if_icmp .ne 105, 3) := by decide +kernel
theorem dL_law_577 : decode cL_law 577 = .ok (.aload_n 1, 1) := by decide +kernel
theorem dL_law_578 : decode cL_law 578 = .ok (.bipush 107, 2) := by decide +kernel
theorem dL_law_580 : decode cL_law 580 = .ok (.iconst 3, 1) := by decide +kernel
theorem dL_law_581 : decode cL_law 581 = .ok (.newarray .int, 2) := by decide +kernel
theorem dL_law_583 : decode cL_law 583 = .ok (.dup, 1) := by decide +kernel
theorem dL_law_584 : decode cL_law 584 = .ok (.iconst 0, 1) := by decide +kernel
theorem dL_law_585 : decode cL_law 585 = .ok (.iconst 0, 1) := by decide +kernel
theorem dL_law_586 : decode cL_law 586 = .ok (.iastore, 1) := by decide +kernel
theorem dL_law_587 : decode cL_law 587 = .ok (.dup, 1) := by decide +kernel
theorem dL_law_588 : decode cL_law 588 = .ok (.iconst 1, 1) := by decide +kernel
theorem dL_law_589 : decode cL_law 589 = .ok (.iconst 0, 1) := by decide +kernel
theorem dL_law_590 : decode cL_law 590 = .ok (.iastore, 1) := by decide +kernel
theorem dL_law_591 : decode cL_law 591 = .ok (.dup, 1) := by decide +kernel
theorem dL_law_592 : decode cL_law 592 = .ok (.iconst 2, 1) := by decide +kernel
theorem dL_law_593 : decode cL_law 593 = .ok (.iconst 0, 1) := by decide +kernel
theorem dL_law_594 : decode cL_law 594 = .ok (.iastore, 1) := by decide +kernel
theorem dL_law_595 : decode cL_law 595 = .ok (.invokestatic 153, 3) := by decide +kernel
theorem dL_law_598 : decode cL_law 598 = .ok (.ldc 109, 2) := by decide +kernel
theorem dL_law_600 : decode cL_law 600 = .ok (.if_icmp .ne 79, 3) := by decide +kernel
theorem dL_law_603 : decode cL_law 603 = .ok (.aload_n 1, 1) := by decide +kernel
theorem dL_law_604 : decode cL_law 604 = .ok (.bipush 110, 2) := by decide +kernel
theorem dL_law_606 : decode cL_law 606 = .ok (.iconst 2, 1) := by decide +kernel
theorem dL_law_607 : decode cL_law 607 = .ok (.newarray .int, 2) := by decide +kernel
theorem dL_law_609 : decode cL_law 609 = .ok (.dup, 1) := by decide +kernel
theorem dL_law_610 : decode cL_law 610 = .ok (.iconst 0, 1) := by decide +kernel
theorem dL_law_611 : decode cL_law 611 = .ok (.iconst 0, 1) := by decide +kernel
theorem dL_law_612 : decode cL_law 612 = .ok (.iastore, 1) := by decide +kernel
theorem dL_law_613 : decode cL_law 613 = .ok (.dup, 1) := by decide +kernel
theorem dL_law_614 : decode cL_law 614 = .ok (.iconst 1, 1) := by decide +kernel
theorem dL_law_615 : decode cL_law 615 = .ok (.bipush 9, 2) := by decide +kernel
theorem dL_law_617 : decode cL_law 617 = .ok (.iastore, 1) := by decide +kernel
theorem dL_law_618 : decode cL_law 618 = .ok (.invokestatic 153, 3) := by decide +kernel
theorem dL_law_621 : decode cL_law 621 = .ok (.ldc 109, 2) := by decide +kernel
theorem dL_law_623 : decode cL_law 623 = .ok (.if_icmp .ne 56, 3) := by decide +kernel
theorem dL_law_626 : decode cL_law 626 = .ok (.aload_n 1, 1) := by decide +kernel
theorem dL_law_627 : decode cL_law 627 = .ok (.bipush 111, 2) := by decide +kernel
theorem dL_law_629 : decode cL_law 629 = .ok (.iconst 1, 1) := by decide +kernel
theorem dL_law_630 : decode cL_law 630 = .ok (.newarray .int, 2) := by decide +kernel
theorem dL_law_632 : decode cL_law 632 = .ok (.dup, 1) := by decide +kernel
theorem dL_law_633 : decode cL_law 633 = .ok (.iconst 0, 1) := by decide +kernel
theorem dL_law_634 : decode cL_law 634 = .ok (.bipush 114, 2) := by decide +kernel
theorem dL_law_636 : decode cL_law 636 = .ok (.iastore, 1) := by decide +kernel
theorem dL_law_637 : decode cL_law 637 = .ok (.invokestatic 153, 3) := by decide +kernel
theorem dL_law_640 : decode cL_law 640 = .ok (.ifCond .ne 39, 3) := by decide +kernel
theorem dL_law_643 : decode cL_law 643 = .ok (.aload_n 1, 1) := by decide +kernel
theorem dL_law_644 : decode cL_law 644 = .ok (.bipush 111, 2) := by decide +kernel
theorem dL_law_646 : decode cL_law 646 = .ok (.iconst 1, 1) := by decide +kernel
theorem dL_law_647 : decode cL_law 647 = .ok (.newarray .int, 2) := by decide +kernel
theorem dL_law_649 : decode cL_law 649 = .ok (.dup, 1) := by decide +kernel
theorem dL_law_650 : decode cL_law 650 = .ok (.iconst 0, 1) := by decide +kernel
theorem dL_law_651 : decode cL_law 651 = .ok (.bipush 109, 2) := by decide +kernel
theorem dL_law_653 : decode cL_law 653 = .ok (.iastore, 1) := by decide +kernel
theorem dL_law_654 : decode cL_law 654 = .ok (.invokestatic 153, 3) := by decide +kernel
theorem dL_law_657 : decode cL_law 657 = .ok (.iconst 1, 1) := by decide +kernel
theorem dL_law_658 : decode cL_law 658 = .ok (.if_icmp .ne 21, 3) := by decide +kernel
theorem dL_law_661 : decode cL_law 661 = .ok (.aload_n 1, 1) := by decide +kernel
theorem dL_law_662 : decode cL_law 662 = .ok (.bipush 111, 2) := by decide +kernel
theorem dL_law_664 : decode cL_law 664 = .ok (.iconst 1, 1) := by decide +kernel
theorem dL_law_665 : decode cL_law 665 = .ok (.newarray .int, 2) := by decide +kernel
theorem dL_law_667 : decode cL_law 667 = .ok (.dup, 1) := by decide +kernel
theorem dL_law_668 : decode cL_law 668 = .ok (.iconst 0, 1) := by decide +kernel
theorem dL_law_669 : decode cL_law 669 = .ok (.bipush 120, 2) := by decide +kernel
theorem dL_law_671 : decode cL_law 671 = .ok (.iastore, 1) := by decide +kernel
theorem dL_law_672 : decode cL_law 672 = .ok (.invokestatic 153, 3) := by decide +kernel
theorem dL_law_675 : decode cL_law 675 = .ok (.iconst 2, 1) := by decide +kernel
theorem dL_law_676 : decode cL_law 676 = .ok (.if_icmp .eq 5, 3) := by decide +kernel
theorem dL_law_679 : decode cL_law 679 = .ok (.iconst 0, 1) := by decide +kernel
theorem dL_law_680 : decode cL_law 680 = .ok (.ireturn, 1) := by decide +kernel
theorem dL_law_681 : decode cL_law 681 = .ok (.invokestatic 157, 3) := by decide +kernel
theorem dL_law_684 : decode cL_law 684 = .ok (.ifCond .eq 21, 3) := by decide +kernel
theorem dL_law_687 : decode cL_law 687 = .ok (.aload_n 0, 1) := by decide +kernel
theorem dL_law_688 : decode cL_law 688 = .ok (.invokestatic 160, 3) := by decide +kernel
theorem dL_law_691 : decode cL_law 691 = .ok (.ifCond .eq 14, 3) := by decide +kernel
theorem dL_law_694 : decode cL_law 694 = .ok (.aload_n 0, 1) := by decide +kernel
theorem dL_law_695 : decode cL_law 695 = .ok (.invokestatic 164, 3) := by decide +kernel
theorem dL_law_698 : decode cL_law 698 = .ok (.ifCond .eq 7, 3) := by decide +kernel
theorem dL_law_701 : decode cL_law 701 = .ok (.iconst 1, 1) := by decide +kernel
theorem dL_law_702 : decode cL_law 702 = .ok (.goto 4, 3) := by decide +kernel
theorem dL_law_705 : decode cL_law 705 = .ok (.iconst 0, 1) := by decide +kernel
theorem dL_law_706 : decode cL_law 706 = .ok (.ireturn, 1) := by decide +kernel
theorem dL_full_0 : decode cL_full 0 = .ok (.new 8, 3) := by decide +kernel
theorem dL_full_3 : decode cL_full 3 = .ok (.dup, 1) := by decide +kernel
theorem dL_full_4 : decode cL_full 4 = .ok (.invokespecial 132, 3) := by decide +kernel
theorem dL_full_7 : decode cL_full 7 = .ok (.astore_n 0, 1) := by decide +kernel
theorem dL_full_8 : decode cL_full 8 = .ok (.iconst 0, 1) := by decide +kernel
theorem dL_full_9 : decode cL_full 9 = .ok (.istore_n 1, 1) := by decide +kernel
theorem dL_full_10 : decode cL_full 10 = .ok (.iload_n 1, 1) := by decide +kernel
theorem dL_full_11 : decode cL_full 11 = .ok (.iconst 3, 1) := by decide +kernel
theorem dL_full_12 : decode cL_full 12 = .ok (.if_icmp .ge 29, 3) := by decide +kernel
theorem dL_full_15 : decode cL_full 15 = .ok (.aload_n 0, 1) := by decide +kernel
theorem dL_full_16 : decode cL_full 16 = .ok (.bipush 82, 2) := by decide +kernel
theorem dL_full_18 : decode cL_full 18 = .ok (.iconst 1, 1) := by decide +kernel
theorem dL_full_19 : decode cL_full 19 = .ok (.newarray .int, 2) := by decide +kernel
theorem dL_full_21 : decode cL_full 21 = .ok (.dup, 1) := by decide +kernel
theorem dL_full_22 : decode cL_full 22 = .ok (.iconst 0, 1) := by decide +kernel
theorem dL_full_23 : decode cL_full 23 = .ok (.bipush 6, 2) := by decide +kernel
theorem dL_full_25 : decode cL_full 25 = .ok (.iastore, 1) := by decide +kernel
theorem dL_full_26 : decode cL_full 26 = .ok (.invokestatic 153, 3) := by decide +kernel
theorem dL_full_29 : decode cL_full 29 = .ok (.iload_n 1, 1) := by decide +kernel
theorem dL_full_30 : decode cL_full 30 = .ok (.if_icmp .eq 5, 3) := by decide +kernel
theorem dL_full_33 : decode cL_full 33 = .ok (.iconst 0, 1) := by decide +kernel
theorem dL_full_34 : decode cL_full 34 = .ok (.ireturn, 1) := by decide +kernel
theorem dL_full_35 : decode cL_full 35 = .ok (.iinc 1 1, 3) := by decide +kernel
theorem dL_full_38 : decode cL_full 38 = .ok (.goto (-28), 3) := by decide +kernel
theorem dL_full_41 : decode cL_full 41 = .ok (.iconst 0, 1) := by decide +kernel
theorem dL_full_42 : decode cL_full 42 = .ok (.istore_n 1, 1) := by decide +kernel
theorem dL_full_43 : decode cL_full 43 = .ok (.iload_n 1, 1) := by decide +kernel
theorem dL_full_44 : decode cL_full 44 = .ok (.bipush 6, 2) := by decide +kernel
theorem dL_full_46 : decode cL_full 46 = .ok (.if_icmp .ge 24, 3) := by decide +kernel
theorem dL_full_49 : decode cL_full 49 = .ok (.aload_n 0, 1) := by decide +kernel
theorem dL_full_50 : decode cL_full 50 = .ok (.bipush 69, 2) := by decide +kernel
theorem dL_full_52 : decode cL_full 52 = .ok (.iconst 0, 1) := by decide +kernel
theorem dL_full_53 : decode cL_full 53 = .ok (.newarray .int, 2) := by decide +kernel
theorem dL_full_55 : decode cL_full 55 = .ok (.invokestatic 153, 3) := by decide +kernel
theorem dL_full_58 : decode cL_full 58 = .ok (.iload_n 1, 1) := by decide +kernel
theorem dL_full_59 : decode cL_full 59 = .ok (.if_icmp .eq 5, 3) := by decide +kernel
theorem dL_full_62 : decode cL_full 62 = .ok (.iconst 0, 1) := by decide +kernel
theorem dL_full_63 : decode cL_full 63 = .ok (.ireturn, 1) := by decide +kernel
theorem dL_full_64 : decode cL_full 64 = .ok (.iinc 1 1, 3) := by decide +kernel
theorem dL_full_67 : decode cL_full 67 = .ok (.goto (-24), 3) := by decide +kernel
theorem dL_full_70 : decode cL_full 70 = .ok (.iconst 0, 1) := by decide +kernel
theorem dL_full_71 : decode cL_full 71 = .ok (.istore_n 1, 1) := by decide +kernel
theorem dL_full_72 : decode cL_full 72 = .ok (.iload_n 1, 1) := by decide +kernel
theorem dL_full_73 : decode cL_full 73 = .ok (.bipush 10, 2) := by decide +kernel
theorem dL_full_75 : decode cL_full 75 = .ok (.if_icmp .ge 42, 3) := by decide +kernel
theorem dL_full_78 : decode cL_full 78 = .ok (.aload_n 0, 1) := by decide +kernel
theorem dL_full_79 : decode cL_full 79 = .ok (.bipush 80, 2) := by decide +kernel
theorem dL_full_81 : decode cL_full 81 = .ok (.iconst 0, 1) := by decide +kernel
theorem dL_full_82 : decode cL_full 82 = .ok (.newarray .int, 2) := by decide +kernel
theorem dL_full_84 : decode cL_full 84 = .ok (.invokestatic 153, 3) := by decide +kernel
theorem dL_full_87 : decode cL_full 87 = .ok (.iload_n 1, 1) := by decide +kernel
theorem dL_full_88 : decode cL_full 88 = .ok (.if_icmp .ne 21, 3) := by decide +kernel
theorem dL_full_91 : decode cL_full 91 = .ok (.aload_n 0, 1) := by decide +kernel
theorem dL_full_92 : decode cL_full 92 = .ok (.bipush 112, 2) := by decide +kernel
theorem dL_full_94 : decode cL_full 94 = .ok (.iconst 1, 1) := by decide +kernel
theorem dL_full_95 : decode cL_full 95 = .ok (.newarray .int, 2) := by decide +kernel
theorem dL_full_97 : decode cL_full 97 = .ok (.dup, 1) := by decide +kernel
theorem dL_full_98 : decode cL_full 98 = .ok (.iconst 0, 1) := by decide +kernel
theorem dL_full_99 : decode cL_full 99 = .ok (.iload_n 1, 1) := by decide +kernel
theorem dL_full_100 : decode cL_full 100 = .ok (.iastore, 1) := by decide +kernel
theorem dL_full_101 : decode cL_full 101 = .ok (.invokestatic 153, 3) := by decide +kernel
theorem dL_full_104 : decode cL_full 104 = .ok (.bipush 100, 2) := by decide +kernel
theorem dL_full_106 : decode cL_full 106 = .ok (.if_icmp .eq 5, 3) := by decide +kernel
theorem dL_full_109 : decode cL_full 109 = .ok (.iconst 0, 1) := by decide +kernel
theorem dL_full_110 : decode cL_full 110 = .ok (.ireturn, 1) := by decide +kernel
theorem dL_full_111 : decode cL_full 111 = .ok (.iinc 1 1, 3) := by decide +kernel
theorem dL_full_114 : decode cL_full 114 = .ok (.goto (-42), 3) := by decide +kernel
theorem dL_full_117 : decode cL_full 117 = .ok (.iconst 0, 1) := by decide +kernel
theorem dL_full_118 : decode cL_full 118 = .ok (.istore_n 1, 1) := by decide +kernel
theorem dL_full_119 : decode cL_full 119 = .ok (.iload_n 1, 1) := by decide +kernel
theorem dL_full_120 : decode cL_full 120 = .ok (.bipush 12, 2) := by decide +kernel
theorem dL_full_122 : decode cL_full 122 = .ok (.if_icmp .ge 69, 3) := by decide +kernel
theorem dL_full_125 : decode cL_full 125 = .ok (.aload_n 0, 1) := by decide +kernel
theorem dL_full_126 : decode cL_full 126 = .ok (.bipush 79, 2) := by decide +kernel
theorem dL_full_128 : decode cL_full 128 = .ok (.iconst 4, 1) := by decide +kernel
theorem dL_full_129 : decode cL_full 129 = .ok (.newarray .int, 2) := by decide +kernel
theorem dL_full_131 : decode cL_full 131 = .ok (.dup, 1) := by decide +kernel
theorem dL_full_132 : decode cL_full 132 = .ok (.iconst 0, 1) := by decide +kernel
theorem dL_full_133 : decode cL_full 133 = .ok (.iload_n 1, 1) := by decide +kernel
theorem dL_full_134 : decode cL_full 134 = .ok (.bipush 6, 2) := by decide +kernel
theorem dL_full_136 : decode cL_full 136 = .ok (.irem, 1) := by decide +kernel
theorem dL_full_137 : decode cL_full 137 = .ok (.iastore, 1) := by decide +kernel
theorem dL_full_138 : decode cL_full 138 = .ok (.dup, 1) := by decide +kernel
theorem dL_full_139 : decode cL_full 139 = .ok (.iconst 1, 1) := by decide +kernel
theorem dL_full_140 : decode cL_full 140 = .ok (.iload_n 1, 1) := by decide +kernel
theorem dL_full_141 : decode cL_full 141 = .ok (.bipush 6, 2) := by decide +kernel
theorem dL_full_143 : decode cL_full 143 = .ok (.irem, 1) := by decide +kernel
theorem dL_full_144 : decode cL_full 144 = .ok (.iastore, 1) := by decide +kernel
theorem dL_full_145 : decode cL_full 145 = .ok (.dup, 1) := by decide +kernel
theorem dL_full_146 : decode cL_full 146 = .ok (.iconst 2, 1) := by decide +kernel
theorem dL_full_147 : decode cL_full 147 = .ok (.iload_n 1, 1) := by decide +kernel
theorem dL_full_148 : decode cL_full 148 = .ok (.bipush 6, 2) := by decide +kernel
theorem dL_full_150 : decode cL_full 150 = .ok (.idiv, 1) := by decide +kernel
theorem dL_full_151 : decode cL_full 151 = .ok (.iastore, 1) := by decide +kernel
theorem dL_full_152 : decode cL_full 152 = .ok (.dup, 1) := by decide +kernel
theorem dL_full_153 : decode cL_full 153 = .ok (.iconst 3, 1) := by decide +kernel
theorem dL_full_154 : decode cL_full 154 = .ok (.iconst 0, 1) := by decide +kernel
theorem dL_full_155 : decode cL_full 155 = .ok (.iastore, 1) := by decide +kernel
theorem dL_full_156 : decode cL_full 156 = .ok (.invokestatic 153, 3) := by decide +kernel
theorem dL_full_159 : decode cL_full 159 = .ok (.iload_n 1, 1) := by decide +kernel
theorem dL_full_160 : decode cL_full 160 = .ok (.if_icmp .ne 23, 3) := by decide +kernel
theorem dL_full_163 : decode cL_full 163 = .ok (.aload_n 0, 1) := by decide +kernel
theorem dL_full_164 : decode cL_full 164 = .ok (.bipush 108, 2) := by decide +kernel
theorem dL_full_166 : decode cL_full 166 = .ok (.iconst 1, 1) := by decide +kernel
theorem dL_full_167 : decode cL_full 167 = .ok (.newarray .int, 2) := by decide +kernel
theorem dL_full_169 : decode cL_full 169 = .ok (.dup, 1) := by decide +kernel
theorem dL_full_170 : decode cL_full 170 = .ok (.iconst 0, 1) := by decide +kernel
theorem dL_full_171 : decode cL_full 171 = .ok (.iload_n 1, 1) := by decide +kernel
theorem dL_full_172 : decode cL_full 172 = .ok (.iastore, 1) := by decide +kernel
theorem dL_full_173 : decode cL_full 173 = .ok (.invokestatic 153, 3) := by decide +kernel
theorem dL_full_176 : decode cL_full 176 = .ok (.iload_n 1, 1) := by decide +kernel
theorem dL_full_177 : decode cL_full 177 = .ok (.bipush 6, 2) := by decide +kernel
theorem dL_full_179 : decode cL_full 179 = .ok (.irem, 1) := by decide +kernel
theorem dL_full_180 : decode cL_full 180 = .ok (.if_icmp .eq 5, 3) := by decide +kernel
theorem dL_full_183 : decode cL_full 183 = .ok (.iconst 0, 1) := by decide +kernel
theorem dL_full_184 : decode cL_full 184 = .ok (.ireturn, 1) := by decide +kernel
theorem dL_full_185 : decode cL_full 185 = .ok (.iinc 1 1, 3) := by decide +kernel
theorem dL_full_188 : decode cL_full 188 = .ok (.goto (-69), 3) := by decide +kernel
theorem dL_full_191 : decode cL_full 191 = .ok (.aload_n 0, 1) := by decide +kernel
theorem dL_full_192 : decode cL_full 192 = .ok (.bipush 82, 2) := by decide +kernel
theorem dL_full_194 : decode cL_full 194 = .ok (.iconst 1, 1) := by decide +kernel
theorem dL_full_195 : decode cL_full 195 = .ok (.newarray .int, 2) := by decide +kernel
theorem dL_full_197 : decode cL_full 197 = .ok (.dup, 1) := by decide +kernel
theorem dL_full_198 : decode cL_full 198 = .ok (.iconst 0, 1) := by decide +kernel
theorem dL_full_199 : decode cL_full 199 = .ok (.iconst 1, 1) := by decide +kernel
theorem dL_full_200 : decode cL_full 200 = .ok (.iastore, 1) := by decide +kernel
theorem dL_full_201 : decode cL_full 201 = .ok (.invokestatic 153, 3) := by decide +kernel
theorem dL_full_204 : decode cL_full 204 = .ok (.ldc 115, 2) := by decide +kernel
theorem dL_full_206 : decode cL_full 206 = .ok (.if_icmp .ne 146, 3) := by decide +kernel
theorem dL_full_209 : decode cL_full 209 = .ok (.aload_n 0, 1) := by decide +kernel
theorem dL_full_210 : decode cL_full 210 = .ok (.bipush 69, 2) := by decide +kernel
theorem dL_full_212 : decode cL_full 212 = .ok (.iconst 0, 1) := by decide +kernel
theorem dL_full_213 : decode cL_full 213 = .ok (.newarray .int, 2) := by decide +kernel
theorem dL_full_215 : decode cL_full 215 = .ok (.invokestatic 153, 3) := by decide +kernel
theorem dL_full_218 : decode cL_full 218 = .ok (.ldc 115, 2) := by decide +kernel
theorem dL_full_220 : decode cL_full 220 = .ok (.if_icmp .ne 132, 3) := by decide +kernel
theorem dL_full_223 : decode cL_full 223 = .ok (.aload_n 0, 1) := by decide +kernel
theorem dL_full_224 : decode cL_full 224 = .ok (.bipush 80, 2) := by decide +kernel
theorem dL_full_226 : decode cL_full 226 = .ok (.iconst 0, 1) := by decide +kernel
theorem dL_full_227 : decode cL_full 227 = .ok (.newarray .int, 2) := by decide +kernel
theorem dL_full_229 : decode cL_full 229 = .ok (.invokestatic 153, 3) := by decide +kernel
theorem dL_full_232 : decode cL_full 232 = .ok (.ldc 115, 2) := by decide +kernel
theorem dL_full_234 : decode cL_full 234 = .ok (.if_icmp .ne 118, 3) := by decide +kernel
theorem dL_full_237 : decode cL_full 237 = .ok (.aload_n 0, 1) := by decide +kernel
theorem dL_full_238 : decode cL_full 238 = .ok (.bipush 79, 2) := by decide +kernel
theorem dL_full_240 : decode cL_full 240 = .ok (.iconst 4, 1) := by decide +kernel
theorem dL_full_241 : decode cL_full 241 = .ok (.newarray .int, 2) := by decide +kernel
theorem dL_full_243 : decode cL_full 243 = .ok (.dup, 1) := by decide +kernel
theorem dL_full_244 : decode cL_full 244 = .ok (.iconst 0, 1) := by decide +kernel
theorem dL_full_245 : decode cL_full 245 = .ok (.iconst 0, 1) := by decide +kernel
theorem dL_full_246 : decode cL_full 246 = .ok (.iastore, 1) := by decide +kernel
theorem dL_full_247 : decode cL_full 247 = .ok (.dup, 1) := by decide +kernel
theorem dL_full_248 : decode cL_full 248 = .ok (.iconst 1, 1) := by decide +kernel
theorem dL_full_249 : decode cL_full 249 = .ok (.iconst 0, 1) := by decide +kernel
theorem dL_full_250 : decode cL_full 250 = .ok (.iastore, 1) := by decide +kernel
theorem dL_full_251 : decode cL_full 251 = .ok (.dup, 1) := by decide +kernel
theorem dL_full_252 : decode cL_full 252 = .ok (.iconst 2, 1) := by decide +kernel
theorem dL_full_253 : decode cL_full 253 = .ok (.iconst 2, 1) := by decide +kernel
theorem dL_full_254 : decode cL_full 254 = .ok (.iastore, 1) := by decide +kernel
theorem dL_full_255 : decode cL_full 255 = .ok (.dup, 1) := by decide +kernel
theorem dL_full_256 : decode cL_full 256 = .ok (.iconst 3, 1) := by decide +kernel
theorem dL_full_257 : decode cL_full 257 = .ok (.iconst 0, 1) := by decide +kernel
theorem dL_full_258 : decode cL_full 258 = .ok (.iastore, 1) := by decide +kernel
theorem dL_full_259 : decode cL_full 259 = .ok (.invokestatic 153, 3) := by decide +kernel
theorem dL_full_262 : decode cL_full 262 = .ok (.ldc 115, 2) := by decide +kernel
theorem dL_full_264 : decode cL_full 264 = .ok (.if_icmp .ne 88, 3) := by decide +kernel
theorem dL_full_267 : decode cL_full 267 = .ok (.aload_n 0, 1) := by decide +kernel
theorem dL_full_268 : decode cL_full 268 = .ok (.bipush 79, 2) := by decide +kernel
theorem dL_full_270 : decode cL_full 270 = .ok (.iconst 4, 1) := by decide +kernel
theorem dL_full_271 : decode cL_full 271 = .ok (.newarray .int, 2) := by decide +kernel
theorem dL_full_273 : decode cL_full 273 = .ok (.dup, 1) := by decide +kernel
theorem dL_full_274 : decode cL_full 274 = .ok (.iconst 0, 1) := by decide +kernel
theorem dL_full_275 : decode cL_full 275 = .ok (.iconst 0, 1) := by decide +kernel
theorem dL_full_276 : decode cL_full 276 = .ok (.iastore, 1) := by decide +kernel
theorem dL_full_277 : decode cL_full 277 = .ok (.dup, 1) := by decide +kernel
theorem dL_full_278 : decode cL_full 278 = .ok (.iconst 1, 1) := by decide +kernel
theorem dL_full_279 : decode cL_full 279 = .ok (.bipush 6, 2) := by decide +kernel
theorem dL_full_281 : decode cL_full 281 = .ok (.iastore, 1) := by decide +kernel
theorem dL_full_282 : decode cL_full 282 = .ok (.dup, 1) := by decide +kernel
theorem dL_full_283 : decode cL_full 283 = .ok (.iconst 2, 1) := by decide +kernel
theorem dL_full_284 : decode cL_full 284 = .ok (.iconst 0, 1) := by decide +kernel
theorem dL_full_285 : decode cL_full 285 = .ok (.iastore, 1) := by decide +kernel
theorem dL_full_286 : decode cL_full 286 = .ok (.dup, 1) := by decide +kernel
theorem dL_full_287 : decode cL_full 287 = .ok (.iconst 3, 1) := by decide +kernel
theorem dL_full_288 : decode cL_full 288 = .ok (.iconst 0, 1) := by decide +kernel
theorem dL_full_289 : decode cL_full 289 = .ok (.iastore, 1) := by decide +kernel
theorem dL_full_290 : decode cL_full 290 = .ok (.invokestatic 153, 3) := by decide +kernel
theorem dL_full_293 : decode cL_full 293 = .ok (.ldc 112, 2) := by decide +kernel
theorem dL_full_295 : decode cL_full 295 = .ok (.if_icmp .ne 57, 3) := by decide +kernel
theorem dL_full_298 : decode cL_full 298 = .ok (.aload_n 0, 1) := by decide +kernel
theorem dL_full_299 : decode cL_full 299 = .ok (.bipush 79, 2) := by decide +kernel
theorem dL_full_301 : decode cL_full 301 = .ok (.iconst 4, 1) := by decide +kernel
theorem dL_full_302 : decode cL_full 302 = .ok (.newarray .int, 2) := by decide +kernel
theorem dL_full_304 : decode cL_full 304 = .ok (.dup, 1) := by decide +kernel
theorem dL_full_305 : decode cL_full 305 = .ok (.iconst 0, 1) := by decide +kernel
theorem dL_full_306 : decode cL_full 306 = .ok (.iconst 0, 1) := by decide +kernel
theorem dL_full_307 : decode cL_full 307 = .ok (.iastore, 1) := by decide +kernel
theorem dL_full_308 : decode cL_full 308 = .ok (.dup, 1) := by decide +kernel
theorem dL_full_309 : decode cL_full 309 = .ok (.iconst 1, 1) := by decide +kernel
theorem dL_full_310 : decode cL_full 310 = .ok (.iconst 0, 1) := by decide +kernel
theorem dL_full_311 : decode cL_full 311 = .ok (.iastore, 1) := by decide +kernel
theorem dL_full_312 : decode cL_full 312 = .ok (.dup, 1) := by decide +kernel
theorem dL_full_313 : decode cL_full 313 = .ok (.iconst 2, 1) := by decide +kernel
theorem dL_full_314 : decode cL_full 314 = .ok (.iconst 0, 1) := by decide +kernel
theorem dL_full_315 : decode cL_full 315 = .ok (.iastore, 1) := by decide +kernel
theorem dL_full_316 : decode cL_full 316 = .ok (.dup, 1) := by decide +kernel
theorem dL_full_317 : decode cL_full 317 = .ok (.iconst 3, 1) := by decide +kernel
theorem dL_full_318 : decode cL_full 318 = .ok (.iconst 0, 1) := by decide +kernel
theorem dL_full_319 : decode cL_full 319 = .ok (.iastore, 1) := by decide +kernel
theorem dL_full_320 : decode cL_full 320 = .ok (.invokestatic 153, 3) := by decide +kernel
theorem dL_full_323 : decode cL_full 323 = .ok (.ldc 118, 2) := by decide +kernel
theorem dL_full_325 : decode cL_full 325 = .ok (.if_icmp .ne 27, 3) := by decide +kernel
theorem dL_full_328 : decode cL_full 328 = .ok (.aload_n 0, 1) := by decide +kernel
theorem dL_full_329 : decode cL_full 329 = .ok (.invokevirtual 122, 3) := by decide +kernel
theorem dL_full_332 : decode cL_full 332 = .ok (.fconst 0, 1) := by decide +kernel
theorem dL_full_333 : decode cL_full 333 = .ok (.fcmp .l, 1) := by decide +kernel
theorem dL_full_334 : decode cL_full 334 = .ok (.ifCond .ne 18, 3) := by decide +kernel
theorem dL_full_337 : decode cL_full 337 = .ok (.aload_n 0, 1) := by decide +kernel
theorem dL_full_338 : decode cL_full 338 = .ok (.invokevirtual 126, 3) := by decide +kernel
theorem dL_full_341 : decode cL_full 341 = .ok (.ldc2_w 167, 3) := by decide +kernel
theorem dL_full_344 : decode cL_full 344 = .ok (.dcmp .l, 1) := by decide +kernel
theorem dL_full_345 : decode cL_full 345 = .ok (.ifCond .ne 7, 3) := by decide +kernel
theorem dL_full_348 : decode cL_full 348 = .ok (.iconst 1, 1) := by decide +kernel
theorem dL_full_349 : decode cL_full 349 = .ok (.goto 4, 3) := by decide +kernel
theorem dL_full_352 : decode cL_full 352 = .ok (.iconst 0, 1) := by decide +kernel
theorem dL_full_353 : decode cL_full 353 = .ok (.ireturn, 1) := by decide +kernel
theorem dL_rights_0 : decode cL_rights 0 = .ok (.new 8, 3) := by decide +kernel
theorem dL_rights_3 : decode cL_rights 3 = .ok (.dup, 1) := by decide +kernel
theorem dL_rights_4 : decode cL_rights 4 = .ok (.invokespecial 132, 3) := by decide +kernel
theorem dL_rights_7 : decode cL_rights 7 = .ok (.astore_n 1, 1) := by decide +kernel
theorem dL_rights_8 : decode cL_rights 8 = .ok (.iconst 1, 1) := by decide +kernel
theorem dL_rights_9 : decode cL_rights 9 = .ok (.aload_n 0, 1) := by decide +kernel
theorem dL_rights_10 : decode cL_rights 10 = .ok (.iconst 0, 1) := by decide +kernel
theorem dL_rights_11 : decode cL_rights 11 = .ok (.invokestatic 169, 3) := by decide +kernel
theorem dL_rights_14 : decode cL_rights 14 = .ok (.iconst 4, 1) := by decide +kernel
theorem dL_rights_15 : decode cL_rights 15 = .ok (.invokestatic 172, 3) := by decide +kernel
theorem dL_rights_18 : decode cL_rights 18 = .ok (.iadd, 1) := by decide +kernel
theorem dL_rights_19 : decode cL_rights 19 = .ok (.istore_n 2, 1) := by decide +kernel
theorem dL_rights_20 : decode cL_rights 20 = .ok (.iconst 2, 1) := by decide +kernel
theorem dL_rights_21 : decode cL_rights 21 = .ok (.aload_n 0, 1) := by decide +kernel
theorem dL_rights_22 : decode cL_rights 22 = .ok (.iconst 1, 1) := by decide +kernel
theorem dL_rights_23 : decode cL_rights 23 = .ok (.invokestatic 169, 3) := by decide +kernel
theorem dL_rights_26 : decode cL_rights 26 = .ok (.bipush 6, 2) := by decide +kernel
theorem dL_rights_28 : decode cL_rights 28 = .ok (.invokestatic 172, 3) := by decide +kernel
theorem dL_rights_31 : decode cL_rights 31 = .ok (.iadd, 1) := by decide +kernel
theorem dL_rights_32 : decode cL_rights 32 = .ok (.istore_n 3, 1) := by decide +kernel
theorem dL_rights_33 : decode cL_rights 33 = .ok (.aload_n 1, 1) := by decide +kernel
theorem dL_rights_34 : decode cL_rights 34 = .ok (.bipush 82, 2) := by decide +kernel
theorem dL_rights_36 : decode cL_rights 36 = .ok (.iconst 1, 1) := by decide +kernel
theorem dL_rights_37 : decode cL_rights 37 = .ok (.newarray .int, 2) := by decide +kernel
theorem dL_rights_39 : decode cL_rights 39 = .ok (.dup, 1) := by decide +kernel
theorem dL_rights_40 : decode cL_rights 40 = .ok (.iconst 0, 1) := by decide +kernel
theorem dL_rights_41 : decode cL_rights 41 = .ok (.iload_n 2, 1) := by decide +kernel
theorem dL_rights_42 : decode cL_rights 42 = .ok (.iastore, 1) := by decide +kernel
theorem dL_rights_43 : decode cL_rights 43 = .ok (.invokestatic 153, 3) := by decide +kernel
theorem dL_rights_46 : decode cL_rights 46 = .ok (.ifCond .ne 43, 3) := by decide +kernel
theorem dL_rights_49 : decode cL_rights 49 = .ok (.aload_n 1, 1) := by decide +kernel
theorem dL_rights_50 : decode cL_rights 50 = .ok (.bipush 69, 2) := by decide +kernel
theorem dL_rights_52 : decode cL_rights 52 = .ok (.iconst 0, 1) := by decide +kernel
theorem dL_rights_53 : decode cL_rights 53 = .ok (.newarray .int, 2) := by decide +kernel
theorem dL_rights_55 : decode cL_rights 55 = .ok (.invokestatic 153, 3) := by decide +kernel
theorem dL_rights_58 : decode cL_rights 58 = .ok (.ifCond .ne 31, 3) := by decide +kernel
theorem dL_rights_61 : decode cL_rights 61 = .ok (.aload_n 1, 1) := by decide +kernel
theorem dL_rights_62 : decode cL_rights 62 = .ok (.bipush 79, 2) := by decide +kernel
theorem dL_rights_64 : decode cL_rights 64 = .ok (.iconst 4, 1) := by decide +kernel
theorem dL_rights_65 : decode cL_rights 65 = .ok (.newarray .int, 2) := by decide +kernel
theorem dL_rights_67 : decode cL_rights 67 = .ok (.dup, 1) := by decide +kernel
theorem dL_rights_68 : decode cL_rights 68 = .ok (.iconst 0, 1) := by decide +kernel
theorem dL_rights_69 : decode cL_rights 69 = .ok (.iconst 0, 1) := by decide +kernel
theorem dL_rights_70 : decode cL_rights 70 = .ok (.iastore, 1) := by decide +kernel
theorem dL_rights_71 : decode cL_rights 71 = .ok (.dup, 1) := by decide +kernel
theorem dL_rights_72 : decode cL_rights 72 = .ok (.iconst 1, 1) := by decide +kernel
theorem dL_rights_73 : decode cL_rights 73 = .ok (.iconst 2, 1) := by decide +kernel
theorem dL_rights_74 : decode cL_rights 74 = .ok (.iastore, 1) := by decide +kernel
theorem dL_rights_75 : decode cL_rights 75 = .ok (.dup, 1) := by decide +kernel
theorem dL_rights_76 : decode cL_rights 76 = .ok (.iconst 2, 1) := by decide +kernel
theorem dL_rights_77 : decode cL_rights 77 = .ok (.iconst 0, 1) := by decide +kernel
theorem dL_rights_78 : decode cL_rights 78 = .ok (.iastore, 1) := by decide +kernel
theorem dL_rights_79 : decode cL_rights 79 = .ok (.dup, 1) := by decide +kernel
theorem dL_rights_80 : decode cL_rights 80 = .ok (.iconst 3, 1) := by decide +kernel
theorem dL_rights_81 : decode cL_rights 81 = .ok (.iconst 0, 1) := by decide +kernel
theorem dL_rights_82 : decode cL_rights 82 = .ok (.iastore, 1) := by decide +kernel
theorem dL_rights_83 : decode cL_rights 83 = .ok (.invokestatic 153, 3) := by decide +kernel
theorem dL_rights_86 : decode cL_rights 86 = .ok (.ifCond .eq 5, 3) := by decide +kernel
theorem dL_rights_89 : decode cL_rights 89 = .ok (.iconst 0, 1) := by decide +kernel
theorem dL_rights_90 : decode cL_rights 90 = .ok (.ireturn, 1) := by decide +kernel
theorem dL_rights_91 : decode cL_rights 91 = .ok (.iload_n 3, 1) := by decide +kernel
theorem dL_rights_92 : decode cL_rights 92 = .ok (.newarray .int, 2) := by decide +kernel
theorem dL_rights_94 : decode cL_rights 94 = .ok (.astore 4, 2) := by decide +kernel
theorem dL_rights_96 : decode cL_rights 96 = .ok (.iconst 0, 1) := by decide +kernel
theorem dL_rights_97 : decode cL_rights 97 = .ok (.istore 5, 2) := by decide +kernel
theorem dL_rights_99 : decode cL_rights 99 = .ok (.iload 5, 2) := by decide +kernel
theorem dL_rights_101 : decode cL_rights 101 = .ok (.iload_n 3, 1) := by decide +kernel
theorem dL_rights_102 : decode cL_rights 102 = .ok (.if_icmp .ge 196, 3) := by decide +kernel
theorem dL_rights_105 : decode cL_rights 105 = .ok (.aload 4, 2) := by decide +kernel
theorem dL_rights_107 : decode cL_rights 107 = .ok (.iload 5, 2) := by decide +kernel
theorem dL_rights_109 : decode cL_rights 109 = .ok (.iconst 1, 1) := by decide +kernel
theorem dL_rights_110 : decode cL_rights 110 = .ok (.aload_n 0, 1) := by decide +kernel
theorem dL_rights_111 : decode cL_rights 111 = .ok (.iconst 2, 1) := by decide +kernel
theorem dL_rights_112 : decode cL_rights 112 = .ok (.iload 5, 2) := by decide +kernel
theorem dL_rights_114 : decode cL_rights 114 = .ok (.iadd, 1) := by decide +kernel
theorem dL_rights_115 : decode cL_rights 115 = .ok (.invokestatic 169, 3) := by decide +kernel
theorem dL_rights_118 : decode cL_rights 118 = .ok (.bipush 100, 2) := by decide +kernel
theorem dL_rights_120 : decode cL_rights 120 = .ok (.invokestatic 172, 3) := by decide +kernel
theorem dL_rights_123 : decode cL_rights 123 = .ok (.iadd, 1) := by decide +kernel
theorem dL_rights_124 : decode cL_rights 124 = .ok (.iastore, 1) := by decide +kernel
theorem dL_rights_125 : decode cL_rights 125 = .ok (.aload_n 1, 1) := by decide +kernel
theorem dL_rights_126 : decode cL_rights 126 = .ok (.bipush 80, 2) := by decide +kernel
theorem dL_rights_128 : decode cL_rights 128 = .ok (.iconst 0, 1) := by decide +kernel
theorem dL_rights_129 : decode cL_rights 129 = .ok (.newarray .int, 2) := by decide +kernel
theorem dL_rights_131 : decode cL_rights 131 = .ok (.invokestatic 153, 3) := by decide +kernel
theorem dL_rights_134 : decode cL_rights 134 = .ok (.iload 5, 2) := by decide +kernel
theorem dL_rights_136 : decode cL_rights 136 = .ok (.if_icmp .ne 65, 3) := by decide +kernel
theorem dL_rights_139 : decode cL_rights 139 = .ok (.aload_n 1, 1) := by decide +kernel
theorem dL_rights_140 : decode cL_rights 140 = .ok (.bipush 98, 2) := by decide +kernel
theorem dL_rights_142 : decode cL_rights 142 = .ok (.iconst 3, 1) := by decide +kernel
theorem dL_rights_143 : decode cL_rights 143 = .ok (.newarray .int, 2) := by decide +kernel
theorem dL_rights_145 : decode cL_rights 145 = .ok (.dup, 1) := by decide +kernel
theorem dL_rights_146 : decode cL_rights 146 = .ok (.iconst 0, 1) := by decide +kernel
theorem dL_rights_147 : decode cL_rights 147 = .ok (.iload 5, 2) := by decide +kernel
theorem dL_rights_149 : decode cL_rights 149 = .ok (.iastore, 1) := by decide +kernel
theorem dL_rights_150 : decode cL_rights 150 = .ok (.dup, 1) := by decide +kernel
theorem dL_rights_151 : decode cL_rights 151 = .ok (.iconst 1, 1) := by decide +kernel
theorem dL_rights_152 : decode cL_rights 152 = .ok (.iconst 0, 1) := by decide +kernel
theorem dL_rights_153 : decode cL_rights 153 = .ok (.iastore, 1) := by decide +kernel
theorem dL_rights_154 : decode cL_rights 154 = .ok (.dup, 1) := by decide +kernel
theorem dL_rights_155 : decode cL_rights 155 = .ok (.iconst 2, 1) := by decide +kernel
theorem dL_rights_156 : decode cL_rights 156 = .ok (.aload 4, 2) := by decide +kernel
theorem dL_rights_158 : decode cL_rights 158 = .ok (.iload 5, 2) := by decide +kernel
theorem dL_rights_160 : decode cL_rights 160 = .ok (.iaload, 1) := by decide +kernel
theorem dL_rights_161 : decode cL_rights 161 = .ok (.iastore, 1) := by decide +kernel
theorem dL_rights_162 : decode cL_rights 162 = .ok (.invokestatic 153, 3) := by decide +kernel
theorem dL_rights_165 : decode cL_rights 165 = .ok (.aload 4, 2) := by decide +kernel
theorem dL_rights_167 : decode cL_rights 167 = .ok (.iload 5, 2) := by decide +kernel
theorem dL_rights_169 : decode cL_rights 169 = .ok (.iaload, 1) := by decide +kernel
theorem dL_rights_170 : decode cL_rights 170 = .ok (.if_icmp .ne 31, 3) := by decide +kernel
theorem dL_rights_173 : decode cL_rights 173 = .ok (.aload_n 1, 1) := by decide +kernel
theorem dL_rights_174 : decode cL_rights 174 = .ok (.bipush 98, 2) := by decide +kernel
theorem dL_rights_176 : decode cL_rights 176 = .ok (.iconst 3, 1) := by decide +kernel
theorem dL_rights_177 : decode cL_rights 177 = .ok (.newarray .int, 2) := by decide +kernel
theorem dL_rights_179 : decode cL_rights 179 = .ok (.dup, 1) := by decide +kernel
theorem dL_rights_180 : decode cL_rights 180 = .ok (.iconst 0, 1) := by decide +kernel
theorem dL_rights_181 : decode cL_rights 181 = .ok (.iload 5, 2) := by decide +kernel
theorem dL_rights_183 : decode cL_rights 183 = .ok (.iastore, 1) := by decide +kernel
theorem dL_rights_184 : decode cL_rights 184 = .ok (.dup, 1) := by decide +kernel
theorem dL_rights_185 : decode cL_rights 185 = .ok (.iconst 1, 1) := by decide +kernel
theorem dL_rights_186 : decode cL_rights 186 = .ok (.iconst 0, 1) := by decide +kernel
theorem dL_rights_187 : decode cL_rights 187 = .ok (.iastore, 1) := by decide +kernel
theorem dL_rights_188 : decode cL_rights 188 = .ok (.dup, 1) := by decide +kernel
theorem dL_rights_189 : decode cL_rights 189 = .ok (.iconst 2, 1) := by decide +kernel
theorem dL_rights_190 : decode cL_rights 190 = .ok (.bipush 101, 2) := by decide +kernel
theorem dL_rights_192 : decode cL_rights 192 = .ok (.iastore, 1) := by decide +kernel
theorem dL_rights_193 : decode cL_rights 193 = .ok (.invokestatic 153, 3) := by decide +kernel
theorem dL_rights_196 : decode cL_rights 196 = .ok (.ldc 112, 2) := by decide +kernel
theorem dL_rights_198 : decode cL_rights 198 = .ok (.if_icmp .eq 5, 3) := by decide +kernel
theorem dL_rights_201 : decode cL_rights 201 = .ok (.iconst 0, 1) := by decide +kernel
theorem dL_rights_202 : decode cL_rights 202 = .ok (.ireturn, 1) := by decide +kernel
theorem dL_rights_203 : decode cL_rights 203 = .ok (.iconst 0, 1) := by decide +kernel
theorem dL_rights_204 : decode cL_rights 204 = .ok (.istore 6, 2) := by decide +kernel
theorem dL_rights_206 : decode cL_rights 206 = .ok (.iload 6, 2) := by decide +kernel
theorem dL_rights_208 : decode cL_rights 208 = .ok (.iconst 3, 1) := by decide +kernel
theorem dL_rights_209 : decode cL_rights 209 = .ok (.if_icmp .ge 46, 3) := by decide +kernel
theorem dL_rights_212 : decode cL_rights 212 = .ok (.aload_n 1, 1) := by decide +kernel
theorem dL_rights_213 : decode cL_rights 213 = .ok (.bipush 120, 2) := by decide +kernel
theorem dL_rights_215 : decode cL_rights 215 = .ok (.iconst 5, 1) := by decide +kernel
theorem dL_rights_216 : decode cL_rights 216 = .ok (.newarray .int, 2) := by decide +kernel
theorem dL_rights_218 : decode cL_rights 218 = .ok (.dup, 1) := by decide +kernel
theorem dL_rights_219 : decode cL_rights 219 = .ok (.iconst 0, 1) := by decide +kernel
theorem dL_rights_220 : decode cL_rights 220 = .ok (.iload 6, 2) := by decide +kernel
theorem dL_rights_222 : decode cL_rights 222 = .ok (.iastore, 1) := by decide +kernel
theorem dL_rights_223 : decode cL_rights 223 = .ok (.dup, 1) := by decide +kernel
theorem dL_rights_224 : decode cL_rights 224 = .ok (.iconst 1, 1) := by decide +kernel
theorem dL_rights_225 : decode cL_rights 225 = .ok (.iload 5, 2) := by decide +kernel
theorem dL_rights_227 : decode cL_rights 227 = .ok (.iastore, 1) := by decide +kernel
theorem dL_rights_228 : decode cL_rights 228 = .ok (.dup, 1) := by decide +kernel
theorem dL_rights_229 : decode cL_rights 229 = .ok (.iconst 2, 1) := by decide +kernel
theorem dL_rights_230 : decode cL_rights 230 = .ok (.iconst 0, 1) := by decide +kernel
theorem dL_rights_231 : decode cL_rights 231 = .ok (.iastore, 1) := by decide +kernel
theorem dL_rights_232 : decode cL_rights 232 = .ok (.dup, 1) := by decide +kernel
theorem dL_rights_233 : decode cL_rights 233 = .ok (.iconst 3, 1) := by decide +kernel
theorem dL_rights_234 : decode cL_rights 234 = .ok (.bipush 114, 2) := by decide +kernel
theorem dL_rights_236 : decode cL_rights 236 = .ok (.iastore, 1) := by decide +kernel
theorem dL_rights_237 : decode cL_rights 237 = .ok (.dup, 1) := by decide +kernel
theorem dL_rights_238 : decode cL_rights 238 = .ok (.iconst 4, 1) := by decide +kernel
theorem dL_rights_239 : decode cL_rights 239 = .ok (.iconst 1, 1) := by decide +kernel
theorem dL_rights_240 : decode cL_rights 240 = .ok (.iastore, 1) := by decide +kernel
theorem dL_rights_241 : decode cL_rights 241 = .ok (.invokestatic 153, 3) := by decide +kernel
theorem dL_rights_244 : decode cL_rights 244 = .ok (.ifCond .eq 5, 3) := by decide +kernel
theorem dL_rights_247 : decode cL_rights 247 = .ok (.iconst 0, 1) := by decide +kernel
theorem dL_rights_248 : decode cL_rights 248 = .ok (.ireturn, 1) := by decide +kernel
theorem dL_rights_249 : decode cL_rights 249 = .ok (.iinc 6 1, 3) := by decide +kernel
theorem dL_rights_252 : decode cL_rights 252 = .ok (.goto (-46), 3) := by decide +kernel
theorem dL_rights_255 : decode cL_rights 255 = .ok (.aload_n 1, 1) := by decide +kernel
theorem dL_rights_256 : decode cL_rights 256 = .ok (.bipush 120, 2) := by decide +kernel
theorem dL_rights_258 : decode cL_rights 258 = .ok (.iconst 5, 1) := by decide +kernel
theorem dL_rights_259 : decode cL_rights 259 = .ok (.newarray .int, 2) := by decide +kernel
theorem dL_rights_261 : decode cL_rights 261 = .ok (.dup, 1) := by decide +kernel
theorem dL_rights_262 : decode cL_rights 262 = .ok (.iconst 0, 1) := by decide +kernel
theorem dL_rights_263 : decode cL_rights 263 = .ok (.iconst 2, 1) := by decide +kernel
theorem dL_rights_264 : decode cL_rights 264 = .ok (.iastore, 1) := by decide +kernel
theorem dL_rights_265 : decode cL_rights 265 = .ok (.dup, 1) := by decide +kernel
theorem dL_rights_266 : decode cL_rights 266 = .ok (.iconst 1, 1) := by decide +kernel
theorem dL_rights_267 : decode cL_rights 267 = .ok (.iload 5, 2) := by decide +kernel
theorem dL_rights_269 : decode cL_rights 269 = .ok (.iastore, 1) := by decide +kernel
theorem dL_rights_270 : decode cL_rights 270 = .ok (.dup, 1) := by decide +kernel
theorem dL_rights_271 : decode cL_rights 271 = .ok (.iconst 2, 1) := by decide +kernel
theorem dL_rights_272 : decode cL_rights 272 = .ok (.iconst 0, 1) := by decide +kernel
theorem dL_rights_273 : decode cL_rights 273 = .ok (.iastore, 1) := by decide +kernel
theorem dL_rights_274 : decode cL_rights 274 = .ok (.dup, 1) := by decide +kernel
theorem dL_rights_275 : decode cL_rights 275 = .ok (.iconst 3, 1) := by decide +kernel
theorem dL_rights_276 : decode cL_rights 276 = .ok (.bipush 120, 2) := by decide +kernel
theorem dL_rights_278 : decode cL_rights 278 = .ok (.iastore, 1) := by decide +kernel
theorem dL_rights_279 : decode cL_rights 279 = .ok (.dup, 1) := by decide +kernel
theorem dL_rights_280 : decode cL_rights 280 = .ok (.iconst 4, 1) := by decide +kernel
theorem dL_rights_281 : decode cL_rights 281 = .ok (.iload 5, 2) := by decide +kernel
theorem dL_rights_283 : decode cL_rights 283 = .ok (.iastore, 1) := by decide +kernel
theorem dL_rights_284 : decode cL_rights 284 = .ok (.invokestatic 153, 3) := by decide +kernel
theorem dL_rights_287 : decode cL_rights 287 = .ok (.ifCond .eq 5, 3) := by decide +kernel
theorem dL_rights_290 : decode cL_rights 290 = .ok (.iconst 0, 1) := by decide +kernel
theorem dL_rights_291 : decode cL_rights 291 = .ok (.ireturn, 1) := by decide +kernel
theorem dL_rights_292 : decode cL_rights 292 = .ok (.iinc 5 1, 3) := by decide +kernel
theorem dL_rights_295 : decode cL_rights 295 = .ok (.goto (-196), 3) := by decide +kernel
theorem dL_rights_298 : decode cL_rights 298 = .ok (.iload_n 2, 1) := by decide +kernel
theorem dL_rights_299 : decode cL_rights 299 = .ok (.iload_n 3, 1) := by decide +kernel
theorem dL_rights_300 : decode cL_rights 300 = .ok (.invokestatic 175, 3) := by decide +kernel
theorem dL_rights_303 : decode cL_rights 303 = .ok (.istore 5, 2) := by decide +kernel
theorem dL_rights_305 : decode cL_rights 305 = .ok (.aload_n 1, 1) := by decide +kernel
theorem dL_rights_306 : decode cL_rights 306 = .ok (.invokevirtual 140, 3) := by decide +kernel
theorem dL_rights_309 : decode cL_rights 309 = .ok (.iload 5, 2) := by decide +kernel
theorem dL_rights_311 : decode cL_rights 311 = .ok (.if_icmp .ne 41, 3) := by decide +kernel
theorem dL_rights_314 : decode cL_rights 314 = .ok (.aload_n 1, 1) := by decide +kernel
theorem dL_rights_315 : decode cL_rights 315 = .ok (.bipush 104, 2) := by decide +kernel
theorem dL_rights_317 : decode cL_rights 317 = .ok (.iconst 1, 1) := by decide +kernel
theorem dL_rights_318 : decode cL_rights 318 = .ok (.newarray .int, 2) := by decide +kernel
theorem dL_rights_320 : decode cL_rights 320 = .ok (.dup, 1) := by decide +kernel
theorem dL_rights_321 : decode cL_rights 321 = .ok (.iconst 0, 1) := by decide +kernel
theorem dL_rights_322 : decode cL_rights 322 = .ok (.iconst 0, 1) := by decide +kernel
theorem dL_rights_323 : decode cL_rights 323 = .ok (.iastore, 1) := by decide +kernel
theorem dL_rights_324 : decode cL_rights 324 = .ok (.invokestatic 153, 3) := by decide +kernel
theorem dL_rights_327 : decode cL_rights 327 = .ok (.iload 5, 2) := by decide +kernel
theorem dL_rights_329 : decode cL_rights 329 = .ok (.if_icmp .ne 23, 3) := by decide +kernel
theorem dL_rights_332 : decode cL_rights 332 = .ok (.aload_n 1, 1) := by decide +kernel
theorem dL_rights_333 : decode cL_rights 333 = .ok (.bipush 119, 2) := by decide +kernel
theorem dL_rights_335 : decode cL_rights 335 = .ok (.iconst 1, 1) := by decide +kernel
theorem dL_rights_336 : decode cL_rights 336 = .ok (.newarray .int, 2) := by decide +kernel
theorem dL_rights_338 : decode cL_rights 338 = .ok (.dup, 1) := by decide +kernel
theorem dL_rights_339 : decode cL_rights 339 = .ok (.iconst 0, 1) := by decide +kernel
theorem dL_rights_340 : decode cL_rights 340 = .ok (.iconst 0, 1) := by decide +kernel
theorem dL_rights_341 : decode cL_rights 341 = .ok (.iastore, 1) := by decide +kernel
theorem dL_rights_342 : decode cL_rights 342 = .ok (.invokestatic 153, 3) := by decide +kernel
theorem dL_rights_345 : decode cL_rights 345 = .ok (.iload_n 3, 1) := by decide +kernel
theorem dL_rights_346 : decode cL_rights 346 = .ok (.iload 5, 2) := by decide +kernel
theorem dL_rights_348 : decode cL_rights 348 = .ok (.isub, 1) := by decide +kernel
theorem dL_rights_349 : decode cL_rights 349 = .ok (.if_icmp .eq 5, 3) := by decide +kernel
theorem dL_rights_352 : decode cL_rights 352 = .ok (.iconst 0, 1) := by decide +kernel
theorem dL_rights_353 : decode cL_rights 353 = .ok (.ireturn, 1) := by decide +kernel
theorem dL_rights_354 : decode cL_rights 354 = .ok (.iload_n 3, 1) := by decide +kernel
theorem dL_rights_355 : decode cL_rights 355 = .ok (.newarray .boolean, 2) := by decide +kernel
theorem dL_rights_357 : decode cL_rights 357 = .ok (.astore 6, 2) := by decide +kernel
theorem dL_rights_359 : decode cL_rights 359 = .ok (.iconst 0, 1) := by decide +kernel
theorem dL_rights_360 : decode cL_rights 360 = .ok (.istore 7, 2) := by decide +kernel
theorem dL_rights_362 : decode cL_rights 362 = .ok (.iload 7, 2) := by decide +kernel
theorem dL_rights_364 : decode cL_rights 364 = .ok (.iload 5, 2) := by decide +kernel
theorem dL_rights_366 : decode cL_rights 366 = .ok (.if_icmp .ge 68, 3) := by decide +kernel
theorem dL_rights_369 : decode cL_rights 369 = .ok (.iconst (-1), 1) := by decide +kernel
theorem dL_rights_370 : decode cL_rights 370 = .ok (.istore 8, 2) := by decide +kernel
theorem dL_rights_372 : decode cL_rights 372 = .ok (.iconst 0, 1) := by decide +kernel
theorem dL_rights_373 : decode cL_rights 373 = .ok (.istore 9, 2) := by decide +kernel
theorem dL_rights_375 : decode cL_rights 375 = .ok (.iload 9, 2) := by decide +kernel
theorem dL_rights_377 : decode cL_rights 377 = .ok (.iload_n 3, 1) := by decide +kernel
theorem dL_rights_378 : decode cL_rights 378 = .ok (.if_icmp .ge 44, 3) := by decide +kernel
theorem dL_rights_381 : decode cL_rights 381 = .ok (.aload 6, 2) := by decide +kernel
theorem dL_rights_383 : decode cL_rights 383 = .ok (.iload 9, 2) := by decide +kernel
theorem dL_rights_385 : decode cL_rights 385 = .ok (.baload, 1) := by decide +kernel
theorem dL_rights_386 : decode cL_rights 386 = .ok (.ifCond .ne 26, 3) := by decide +kernel
theorem dL_rights_389 : decode cL_rights 389 = .ok (.iload 8, 2) := by decide +kernel
theorem dL_rights_391 : decode cL_rights 391 = .ok (.ifCond .lt 16, 3) := by decide +kernel
theorem dL_rights_394 : decode cL_rights 394 = .ok (.aload 4, 2) := by decide +kernel
theorem dL_rights_396 : decode cL_rights 396 = .ok (.iload 9, 2) := by decide +kernel
theorem dL_rights_398 : decode cL_rights 398 = .ok (.iaload, 1) := by decide +kernel
theorem dL_rights_399 : decode cL_rights 399 = .ok (.aload 4, 2) := by decide +kernel
theorem dL_rights_401 : decode cL_rights 401 = .ok (.iload 8, 2) := by decide +kernel
theorem dL_rights_403 : decode cL_rights 403 = .ok (.iaload, 1) := by decide +kernel
theorem dL_rights_404 : decode cL_rights 404 = .ok (.if_icmp .le 8, 3) := by decide +kernel
theorem dL_rights_407 : decode cL_rights 407 = .ok (.iload 9, 2) := by decide +kernel
theorem dL_rights_409 : decode cL_rights 409 = .ok (.goto 5, 3) := by decide +kernel
theorem dL_rights_412 : decode cL_rights 412 = .ok (.iload 8, 2) := by decide +kernel
theorem dL_rights_414 : decode cL_rights 414 = .ok (.istore 8, 2) := by decide +kernel
theorem dL_rights_416 : decode cL_rights 416 = .ok (.iinc 9 1, 3) := by decide +kernel
theorem dL_rights_419 : decode cL_rights 419 = .ok (.goto (-44), 3) := by decide +kernel
theorem dL_rights_422 : decode cL_rights 422 = .ok (.aload 6, 2) := by decide +kernel
theorem dL_rights_424 : decode cL_rights 424 = .ok (.iload 8, 2) := by decide +kernel
theorem dL_rights_426 : decode cL_rights 426 = .ok (.iconst 1, 1) := by decide +kernel
theorem dL_rights_427 : decode cL_rights 427 = .ok (.bastore, 1) := by decide +kernel
theorem dL_rights_428 : decode cL_rights 428 = .ok (.iinc 7 1, 3) := by decide +kernel
theorem dL_rights_431 : decode cL_rights 431 = .ok (.goto (-69), 3) := by decide +kernel
theorem dL_rights_434 : decode cL_rights 434 = .ok (.iconst 0, 1) := by decide +kernel
theorem dL_rights_435 : decode cL_rights 435 = .ok (.istore 7, 2) := by decide +kernel
theorem dL_rights_437 : decode cL_rights 437 = .ok (.iconst 0, 1) := by decide +kernel
theorem dL_rights_438 : decode cL_rights 438 = .ok (.istore 8, 2) := by decide +kernel
theorem dL_rights_440 : decode cL_rights 440 = .ok (.iconst 0, 1) := by decide +kernel
theorem dL_rights_441 : decode cL_rights 441 = .ok (.istore 9, 2) := by decide +kernel
theorem dL_rights_443 : decode cL_rights 443 = .ok (.iload 9, 2) := by decide +kernel
theorem dL_rights_445 : decode cL_rights 445 = .ok (.iload_n 3, 1) := by decide +kernel
theorem dL_rights_446 : decode cL_rights 446 = .ok (.if_icmp .ge 285, 3) := by decide +kernel
theorem dL_rights_449 : decode cL_rights 449 = .ok (.aload_n 1, 1) := by decide +kernel
theorem dL_rights_450 : decode cL_rights 450 = .ok (.bipush 115, 2) := by decide +kernel
theorem dL_rights_452 : decode cL_rights 452 = .ok (.iconst 3, 1) := by decide +kernel
theorem dL_rights_453 : decode cL_rights 453 = .ok (.newarray .int, 2) := by decide +kernel
theorem dL_rights_455 : decode cL_rights 455 = .ok (.dup, 1) := by decide +kernel
theorem dL_rights_456 : decode cL_rights 456 = .ok (.iconst 0, 1) := by decide +kernel
theorem dL_rights_457 : decode cL_rights 457 = .ok (.iload 9, 2) := by decide +kernel
theorem dL_rights_459 : decode cL_rights 459 = .ok (.iastore, 1) := by decide +kernel
theorem dL_rights_460 : decode cL_rights 460 = .ok (.dup, 1) := by decide +kernel
theorem dL_rights_461 : decode cL_rights 461 = .ok (.iconst 1, 1) := by decide +kernel
theorem dL_rights_462 : decode cL_rights 462 = .ok (.iconst 0, 1) := by decide +kernel
theorem dL_rights_463 : decode cL_rights 463 = .ok (.iastore, 1) := by decide +kernel
theorem dL_rights_464 : decode cL_rights 464 = .ok (.dup, 1) := by decide +kernel
theorem dL_rights_465 : decode cL_rights 465 = .ok (.iconst 2, 1) := by decide +kernel
theorem dL_rights_466 : decode cL_rights 466 = .ok (.iconst 0, 1) := by decide +kernel
theorem dL_rights_467 : decode cL_rights 467 = .ok (.iastore, 1) := by decide +kernel
theorem dL_rights_468 : decode cL_rights 468 = .ok (.invokestatic 153, 3) := by decide +kernel
theorem dL_rights_471 : decode cL_rights 471 = .ok (.aload 6, 2) := by decide +kernel
theorem dL_rights_473 : decode cL_rights 473 = .ok (.iload 9, 2) := by decide +kernel
theorem dL_rights_475 : decode cL_rights 475 = .ok (.baload, 1) := by decide +kernel
theorem dL_rights_476 : decode cL_rights 476 = .ok (.ifCond .eq 7, 3) := by decide +kernel
theorem dL_rights_479 : decode cL_rights 479 = .ok (.iconst 0, 1) := by decide +kernel
theorem dL_rights_480 : decode cL_rights 480 = .ok (.goto 5, 3) := by decide +kernel
theorem dL_rights_483 : decode cL_rights 483 = .ok (.ldc 121, 2) := by decide +kernel
theorem dL_rights_485 : decode cL_rights 485 = .ok (.if_icmp .ne 100, 3) := by decide +kernel
theorem dL_rights_488 : decode cL_rights 488 = .ok (.aload_n 1, 1) := by decide +kernel
theorem dL_rights_489 : decode cL_rights 489 = .ok (.bipush 112, 2) := by decide +kernel
theorem dL_rights_491 : decode cL_rights 491 = .ok (.iconst 1, 1) := by decide +kernel
theorem dL_rights_492 : decode cL_rights 492 = .ok (.newarray .int, 2) := by decide +kernel
theorem dL_rights_494 : decode cL_rights 494 = .ok (.dup, 1) := by decide +kernel
theorem dL_rights_495 : decode cL_rights 495 = .ok (.iconst 0, 1) := by decide +kernel
theorem dL_rights_496 : decode cL_rights 496 = .ok (.iload 9, 2) := by decide +kernel
theorem dL_rights_498 : decode cL_rights 498 = .ok (.iastore, 1) := by decide +kernel
theorem dL_rights_499 : decode cL_rights 499 = .ok (.invokestatic 153, 3) := by decide +kernel
theorem dL_rights_502 : decode cL_rights 502 = .ok (.bipush 100, 2) := by decide +kernel
theorem dL_rights_504 : decode cL_rights 504 = .ok (.aload 6, 2) := by decide +kernel
theorem dL_rights_506 : decode cL_rights 506 = .ok (.iload 9, 2) := by decide +kernel
theorem dL_rights_508 : decode cL_rights 508 = .ok (.baload, 1) := by decide +kernel
theorem dL_rights_509 : decode cL_rights 509 = .ok (.ifCond .eq 11, 3) := by decide +kernel
theorem dL_rights_512 : decode cL_rights 512 = .ok (.aload 4, 2) := by decide +kernel
theorem dL_rights_514 : decode cL_rights 514 = .ok (.iload 9, 2) := by decide +kernel
theorem dL_rights_516 : decode cL_rights 516 = .ok (.iaload, 1) := by decide +kernel
theorem dL_rights_517 : decode cL_rights 517 = .ok (.goto 4, 3) := by decide +kernel
theorem dL_rights_520 : decode cL_rights 520 = .ok (.iconst 0, 1) := by decide +kernel
theorem dL_rights_521 : decode cL_rights 521 = .ok (.isub, 1) := by decide +kernel
theorem dL_rights_522 : decode cL_rights 522 = .ok (.if_icmp .ne 63, 3) := by decide +kernel
theorem dL_rights_525 : decode cL_rights 525 = .ok (.aload_n 1, 1) := by decide +kernel
theorem dL_rights_526 : decode cL_rights 526 = .ok (.bipush 110, 2) := by decide +kernel
theorem dL_rights_528 : decode cL_rights 528 = .ok (.iconst 2, 1) := by decide +kernel
theorem dL_rights_529 : decode cL_rights 529 = .ok (.newarray .int, 2) := by decide +kernel
theorem dL_rights_531 : decode cL_rights 531 = .ok (.dup, 1) := by decide +kernel
theorem dL_rights_532 : decode cL_rights 532 = .ok (.iconst 0, 1) := by decide +kernel
theorem dL_rights_533 : decode cL_rights 533 = .ok (.iload 9, 2) := by decide +kernel
theorem dL_rights_535 : decode cL_rights 535 = .ok (.iastore, 1) := by decide +kernel
theorem dL_rights_536 : decode cL_rights 536 = .ok (.dup, 1) := by decide +kernel
theorem dL_rights_537 : decode cL_rights 537 = .ok (.iconst 1, 1) := by decide +kernel
theorem dL_rights_538 : decode cL_rights 538 = .ok (.iconst 2, 1) := by decide +kernel
theorem dL_rights_539 : decode cL_rights 539 = .ok (.iastore, 1) := by decide +kernel
theorem dL_rights_540 : decode cL_rights 540 = .ok (.invokestatic 153, 3) := by decide +kernel
theorem dL_rights_543 : decode cL_rights 543 = .ok (.aload 6, 2) := by decide +kernel
theorem dL_rights_545 : decode cL_rights 545 = .ok (.iload 9, 2) := by decide +kernel
theorem dL_rights_547 : decode cL_rights 547 = .ok (.baload, 1) := by decide +kernel
theorem dL_rights_548 : decode cL_rights 548 = .ok (.ifCond .eq 8, 3) := by decide +kernel
theorem dL_rights_551 : decode cL_rights 551 = .ok (.iload 9, 2) := by decide +kernel
theorem dL_rights_553 : decode cL_rights 553 = .ok (.goto 5, 3) := by decide +kernel
theorem dL_rights_556 : decode cL_rights 556 = .ok (.ldc 121, 2) := by decide +kernel
theorem dL_rights_558 : decode cL_rights 558 = .ok (.if_icmp .ne 27, 3) := by decide +kernel
theorem dL_rights_561 : decode cL_rights 561 = .ok (.aload_n 1, 1) := by decide +kernel
theorem dL_rights_562 : decode cL_rights 562 = .ok (.bipush 110, 2) := by decide +kernel
theorem dL_rights_564 : decode cL_rights 564 = .ok (.iconst 2, 1) := by decide +kernel
theorem dL_rights_565 : decode cL_rights 565 = .ok (.newarray .int, 2) := by decide +kernel
theorem dL_rights_567 : decode cL_rights 567 = .ok (.dup, 1) := by decide +kernel
theorem dL_rights_568 : decode cL_rights 568 = .ok (.iconst 0, 1) := by decide +kernel
theorem dL_rights_569 : decode cL_rights 569 = .ok (.iload 9, 2) := by decide +kernel
theorem dL_rights_571 : decode cL_rights 571 = .ok (.iastore, 1) := by decide +kernel
theorem dL_rights_572 : decode cL_rights 572 = .ok (.dup, 1) := by decide +kernel
theorem dL_rights_573 : decode cL_rights 573 = .ok (.iconst 1, 1) := by decide +kernel
theorem dL_rights_574 : decode cL_rights 574 = .ok (.bipush 6, 2) := by decide +kernel
theorem dL_rights_576 : decode cL_rights 576 = .ok (.iastore, 1) := by decide +kernel
theorem dL_rights_577 : decode cL_rights 577 = .ok (.invokestatic 153, 3) := by decide +kernel
theorem dL_rights_580 : decode cL_rights 580 = .ok (.ldc 112, 2) := by decide +kernel
theorem dL_rights_582 : decode cL_rights 582 = .ok (.if_icmp .eq 5, 3) := by decide +kernel
theorem dL_rights_585 : decode cL_rights 585 = .ok (.iconst 0, 1) := by decide +kernel
theorem dL_rights_586 : decode cL_rights 586 = .ok (.ireturn, 1) := by decide +kernel
theorem dL_rights_587 : decode cL_rights 587 = .ok (.aload_n 0, 1) := by decide +kernel
theorem dL_rights_588 : decode cL_rights 588 = .ok (.bipush 20, 2) := by decide +kernel
theorem dL_rights_590 : decode cL_rights 590 = .ok (.iload 9, 2) := by decide +kernel
theorem dL_rights_592 : decode cL_rights 592 = .ok (.iadd, 1) := by decide +kernel
theorem dL_rights_593 : decode cL_rights 593 = .ok (.invokestatic 169, 3) := by decide +kernel
theorem dL_rights_596 : decode cL_rights 596 = .ok (.iconst 3, 1) := by decide +kernel
theorem dL_rights_597 : decode cL_rights 597 = .ok (.invokestatic 172, 3) := by decide +kernel
theorem dL_rights_600 : decode cL_rights 600 = .ok (.ifCond .ne 7, 3) := by decide +kernel
theorem dL_rights_603 : decode cL_rights 603 = .ok (.iconst 1, 1) := by decide +kernel
theorem dL_rights_604 : decode cL_rights 604 = .ok (.goto 4, 3) := by decide +kernel
theorem dL_rights_607 : decode cL_rights 607 = .ok (.iconst 0, 1) := by decide +kernel
theorem dL_rights_608 : decode cL_rights 608 = .ok (.istore 10, 2) := by decide +kernel
theorem dL_rights_610 : decode cL_rights 610 = .ok (.iload 10, 2) := by decide +kernel
theorem dL_rights_612 : decode cL_rights 612 = .ok (.ifCond .eq 40, 3) := by decide +kernel
theorem dL_rights_615 : decode cL_rights 615 = .ok (.aload_n 1, 1) := by decide +kernel
theorem dL_rights_616 : decode cL_rights 616 = .ok (.bipush 120, 2) := by decide +kernel
theorem dL_rights_618 : decode cL_rights 618 = .ok (.iconst 5, 1) := by decide +kernel
theorem dL_rights_619 : decode cL_rights 619 = .ok (.newarray .int, 2) := by decide +kernel
theorem dL_rights_621 : decode cL_rights 621 = .ok (.dup, 1) := by decide +kernel
theorem dL_rights_622 : decode cL_rights 622 = .ok (.iconst 0, 1) := by decide +kernel
theorem dL_rights_623 : decode cL_rights 623 = .ok (.iconst 1, 1) := by decide +kernel
theorem dL_rights_624 : decode cL_rights 624 = .ok (.iastore, 1) := by decide +kernel
theorem dL_rights_625 : decode cL_rights 625 = .ok (.dup, 1) := by decide +kernel
theorem dL_rights_626 : decode cL_rights 626 = .ok (.iconst 1, 1) := by decide +kernel
theorem dL_rights_627 : decode cL_rights 627 = .ok (.iload 9, 2) := by decide +kernel
theorem dL_rights_629 : decode cL_rights 629 = .ok (.iastore, 1) := by decide +kernel
theorem dL_rights_630 : decode cL_rights 630 = .ok (.dup, 1) := by decide +kernel
theorem dL_rights_631 : decode cL_rights 631 = .ok (.iconst 2, 1) := by decide +kernel
theorem dL_rights_632 : decode cL_rights 632 = .ok (.iconst 0, 1) := by decide +kernel
theorem dL_rights_633 : decode cL_rights 633 = .ok (.iastore, 1) := by decide +kernel
theorem dL_rights_634 : decode cL_rights 634 = .ok (.dup, 1) := by decide +kernel
theorem dL_rights_635 : decode cL_rights 635 = .ok (.iconst 3, 1) := by decide +kernel
theorem dL_rights_636 : decode cL_rights 636 = .ok (.bipush 114, 2) := by decide +kernel
theorem dL_rights_638 : decode cL_rights 638 = .ok (.iastore, 1) := by decide +kernel
theorem dL_rights_639 : decode cL_rights 639 = .ok (.dup, 1) := by decide +kernel
theorem dL_rights_640 : decode cL_rights 640 = .ok (.iconst 4, 1) := by decide +kernel
theorem dL_rights_641 : decode cL_rights 641 = .ok (.iconst 0, 1) := by decide +kernel
theorem dL_rights_642 : decode cL_rights 642 = .ok (.iastore, 1) := by decide +kernel
theorem dL_rights_643 : decode cL_rights 643 = .ok (.invokestatic 153, 3) := by decide +kernel
theorem dL_rights_646 : decode cL_rights 646 = .ok (.iconst 1, 1) := by decide +kernel
theorem dL_rights_647 : decode cL_rights 647 = .ok (.if_icmp .eq 5, 3) := by decide +kernel
theorem dL_rights_650 : decode cL_rights 650 = .ok (.iconst 0, 1) := by decide +kernel
theorem dL_rights_651 : decode cL_rights 651 = .ok (.ireturn, 1) := by decide +kernel
theorem dL_rights_652 : decode cL_rights 652 = .ok (.iload 7, 2) := by decide +kernel
theorem dL_rights_654 : decode cL_rights 654 = .ok (.aload 6, 2) := by decide +kernel
theorem dL_rights_656 : decode cL_rights 656 = .ok (.iload 9, 2) := by decide +kernel
theorem dL_rights_658 : decode cL_rights 658 = .ok (.baload, 1) := by decide +kernel
theorem dL_rights_659 : decode cL_rights 659 = .ok (.ifCond .eq 12, 3) := by decide +kernel
theorem dL_rights_662 : decode cL_rights 662 = .ok (.iload 10, 2) := by decide +kernel
theorem dL_rights_664 : decode cL_rights 664 = .ok (.ifCond .eq 7, 3) := by decide +kernel
theorem dL_rights_667 : decode cL_rights 667 = .ok (.iconst 1, 1) := by decide +kernel
theorem dL_rights_668 : decode cL_rights 668 = .ok (.goto 4, 3) := by decide +kernel
theorem dL_rights_671 : decode cL_rights 671 = .ok (.iconst 0, 1) := by decide +kernel
theorem dL_rights_672 : decode cL_rights 672 = .ok (.iadd, 1) := by decide +kernel
theorem dL_rights_673 : decode cL_rights 673 = .ok (.istore 7, 2) := by decide +kernel
theorem dL_rights_675 : decode cL_rights 675 = .ok (.iload 8, 2) := by decide +kernel
theorem dL_rights_677 : decode cL_rights 677 = .ok (.aload 6, 2) := by decide +kernel
theorem dL_rights_679 : decode cL_rights 679 = .ok (.iload 9, 2) := by decide +kernel
theorem dL_rights_681 : decode cL_rights 681 = .ok (.baload, 1) := by decide +kernel
theorem dL_rights_682 : decode cL_rights 682 = .ok (.ifCond .eq 16, 3) := by decide +kernel
theorem dL_rights_685 : decode cL_rights 685 = .ok (.iload 10, 2) := by decide +kernel
theorem dL_rights_687 : decode cL_rights 687 = .ok (.ifCond .eq 11, 3) := by decide +kernel
theorem dL_rights_690 : decode cL_rights 690 = .ok (.aload 4, 2) := by decide +kernel
theorem dL_rights_692 : decode cL_rights 692 = .ok (.iload 9, 2) := by decide +kernel
theorem dL_rights_694 : decode cL_rights 694 = .ok (.iaload, 1) := by decide +kernel
theorem dL_rights_695 : decode cL_rights 695 = .ok (.goto 4, 3) := by decide +kernel
theorem dL_rights_698 : decode cL_rights 698 = .ok (.iconst 0, 1) := by decide +kernel
theorem dL_rights_699 : decode cL_rights 699 = .ok (.iadd, 1) := by decide +kernel
theorem dL_rights_700 : decode cL_rights 700 = .ok (.istore 8, 2) := by decide +kernel
theorem dL_rights_702 : decode cL_rights 702 = .ok (.aload 6, 2) := by decide +kernel
theorem dL_rights_704 : decode cL_rights 704 = .ok (.iload 9, 2) := by decide +kernel
theorem dL_rights_706 : decode cL_rights 706 = .ok (.aload 6, 2) := by decide +kernel
theorem dL_rights_708 : decode cL_rights 708 = .ok (.iload 9, 2) := by decide +kernel
theorem dL_rights_710 : decode cL_rights 710 = .ok (.baload, 1) := by decide +kernel
theorem dL_rights_711 : decode cL_rights 711 = .ok (.ifCond .eq 12, 3) := by decide +kernel
theorem dL_rights_714 : decode cL_rights 714 = .ok (.iload 10, 2) := by decide +kernel
theorem dL_rights_716 : decode cL_rights 716 = .ok (.ifCond .ne 7, 3) := by decide +kernel
theorem dL_rights_719 : decode cL_rights 719 = .ok (.iconst 1, 1) := by decide +kernel
theorem dL_rights_720 : decode cL_rights 720 = .ok (.goto 4, 3) := by decide +kernel
theorem dL_rights_723 : decode cL_rights 723 = .ok (.iconst 0, 1) := by decide +kernel
theorem dL_rights_724 : decode cL_rights 724 = .ok (.bastore, 1) := by decide +kernel
theorem dL_rights_725 : decode cL_rights 725 = .ok (.iinc 9 1, 3) := by decide +kernel
theorem dL_rights_728 : decode cL_rights 728 = .ok (.goto (-285), 3) := by decide +kernel
theorem dL_rights_731 : decode cL_rights 731 = .ok (.aload_n 1, 1) := by decide +kernel
theorem dL_rights_732 : decode cL_rights 732 = .ok (.bipush 99, 2) := by decide +kernel
theorem dL_rights_734 : decode cL_rights 734 = .ok (.iconst 1, 1) := by decide +kernel
theorem dL_rights_735 : decode cL_rights 735 = .ok (.newarray .int, 2) := by decide +kernel
theorem dL_rights_737 : decode cL_rights 737 = .ok (.dup, 1) := by decide +kernel
theorem dL_rights_738 : decode cL_rights 738 = .ok (.iconst 0, 1) := by decide +kernel
theorem dL_rights_739 : decode cL_rights 739 = .ok (.iconst 2, 1) := by decide +kernel
theorem dL_rights_740 : decode cL_rights 740 = .ok (.iastore, 1) := by decide +kernel
theorem dL_rights_741 : decode cL_rights 741 = .ok (.invokestatic 153, 3) := by decide +kernel
theorem dL_rights_744 : decode cL_rights 744 = .ok (.iload 5, 2) := by decide +kernel
theorem dL_rights_746 : decode cL_rights 746 = .ok (.iload 7, 2) := by decide +kernel
theorem dL_rights_748 : decode cL_rights 748 = .ok (.isub, 1) := by decide +kernel
theorem dL_rights_749 : decode cL_rights 749 = .ok (.if_icmp .ne 53, 3) := by decide +kernel
theorem dL_rights_752 : decode cL_rights 752 = .ok (.aload_n 1, 1) := by decide +kernel
theorem dL_rights_753 : decode cL_rights 753 = .ok (.invokevirtual 146, 3) := by decide +kernel
theorem dL_rights_756 : decode cL_rights 756 = .ok (.iload 8, 2) := by decide +kernel
theorem dL_rights_758 : decode cL_rights 758 = .ok (.if_icmp .ne 44, 3) := by decide +kernel
theorem dL_rights_761 : decode cL_rights 761 = .ok (.aload_n 1, 1) := by decide +kernel
theorem dL_rights_762 : decode cL_rights 762 = .ok (.bipush 104, 2) := by decide +kernel
theorem dL_rights_764 : decode cL_rights 764 = .ok (.iconst 1, 1) := by decide +kernel
theorem dL_rights_765 : decode cL_rights 765 = .ok (.newarray .int, 2) := by decide +kernel
theorem dL_rights_767 : decode cL_rights 767 = .ok (.dup, 1) := by decide +kernel
theorem dL_rights_768 : decode cL_rights 768 = .ok (.iconst 0, 1) := by decide +kernel
theorem dL_rights_769 : decode cL_rights 769 = .ok (.iconst 0, 1) := by decide +kernel
theorem dL_rights_770 : decode cL_rights 770 = .ok (.iastore, 1) := by decide +kernel
theorem dL_rights_771 : decode cL_rights 771 = .ok (.invokestatic 153, 3) := by decide +kernel
theorem dL_rights_774 : decode cL_rights 774 = .ok (.iload 5, 2) := by decide +kernel
theorem dL_rights_776 : decode cL_rights 776 = .ok (.iload 7, 2) := by decide +kernel
theorem dL_rights_778 : decode cL_rights 778 = .ok (.isub, 1) := by decide +kernel
theorem dL_rights_779 : decode cL_rights 779 = .ok (.if_icmp .ne 23, 3) := by decide +kernel
theorem dL_rights_782 : decode cL_rights 782 = .ok (.aload_n 1, 1) := by decide +kernel
theorem dL_rights_783 : decode cL_rights 783 = .ok (.bipush 119, 2) := by decide +kernel
theorem dL_rights_785 : decode cL_rights 785 = .ok (.iconst 1, 1) := by decide +kernel
theorem dL_rights_786 : decode cL_rights 786 = .ok (.newarray .int, 2) := by decide +kernel
theorem dL_rights_788 : decode cL_rights 788 = .ok (.dup, 1) := by decide +kernel
theorem dL_rights_789 : decode cL_rights 789 = .ok (.iconst 0, 1) := by decide +kernel
theorem dL_rights_790 : decode cL_rights 790 = .ok (.iconst 0, 1) := by decide +kernel
theorem dL_rights_791 : decode cL_rights 791 = .ok (.iastore, 1) := by decide +kernel
theorem dL_rights_792 : decode cL_rights 792 = .ok (.invokestatic 153, 3) := by decide +kernel
theorem dL_rights_795 : decode cL_rights 795 = .ok (.iload_n 3, 1) := by decide +kernel
theorem dL_rights_796 : decode cL_rights 796 = .ok (.iload 5, 2) := by decide +kernel
theorem dL_rights_798 : decode cL_rights 798 = .ok (.isub, 1) := by decide +kernel
theorem dL_rights_799 : decode cL_rights 799 = .ok (.if_icmp .eq 5, 3) := by decide +kernel
theorem dL_rights_802 : decode cL_rights 802 = .ok (.iconst 0, 1) := by decide +kernel
theorem dL_rights_803 : decode cL_rights 803 = .ok (.ireturn, 1) := by decide +kernel
theorem dL_rights_804 : decode cL_rights 804 = .ok (.iconst 0, 1) := by decide +kernel
theorem dL_rights_805 : decode cL_rights 805 = .ok (.istore 9, 2) := by decide +kernel
theorem dL_rights_807 : decode cL_rights 807 = .ok (.iload 9, 2) := by decide +kernel
theorem dL_rights_809 : decode cL_rights 809 = .ok (.iload_n 3, 1) := by decide +kernel
theorem dL_rights_810 : decode cL_rights 810 = .ok (.if_icmp .ge 86, 3) := by decide +kernel
theorem dL_rights_813 : decode cL_rights 813 = .ok (.aload_n 1, 1) := by decide +kernel
theorem dL_rights_814 : decode cL_rights 814 = .ok (.bipush 107, 2) := by decide +kernel
theorem dL_rights_816 : decode cL_rights 816 = .ok (.iconst 3, 1) := by decide +kernel
theorem dL_rights_817 : decode cL_rights 817 = .ok (.newarray .int, 2) := by decide +kernel
theorem dL_rights_819 : decode cL_rights 819 = .ok (.dup, 1) := by decide +kernel
theorem dL_rights_820 : decode cL_rights 820 = .ok (.iconst 0, 1) := by decide +kernel
theorem dL_rights_821 : decode cL_rights 821 = .ok (.iload 9, 2) := by decide +kernel
theorem dL_rights_823 : decode cL_rights 823 = .ok (.iastore, 1) := by decide +kernel
theorem dL_rights_824 : decode cL_rights 824 = .ok (.dup, 1) := by decide +kernel
theorem dL_rights_825 : decode cL_rights 825 = .ok (.iconst 1, 1) := by decide +kernel
theorem dL_rights_826 : decode cL_rights 826 = .ok (.iconst 0, 1) := by decide +kernel
theorem dL_rights_827 : decode cL_rights 827 = .ok (.iastore, 1) := by decide +kernel
theorem dL_rights_828 : decode cL_rights 828 = .ok (.dup, 1) := by decide +kernel
theorem dL_rights_829 : decode cL_rights 829 = .ok (.iconst 2, 1) := by decide +kernel
theorem dL_rights_830 : decode cL_rights 830 = .ok (.iconst 0, 1) := by decide +kernel
theorem dL_rights_831 : decode cL_rights 831 = .ok (.iastore, 1) := by decide +kernel
theorem dL_rights_832 : decode cL_rights 832 = .ok (.invokestatic 153, 3) := by decide +kernel
theorem dL_rights_835 : decode cL_rights 835 = .ok (.aload 6, 2) := by decide +kernel
theorem dL_rights_837 : decode cL_rights 837 = .ok (.iload 9, 2) := by decide +kernel
theorem dL_rights_839 : decode cL_rights 839 = .ok (.baload, 1) := by decide +kernel
theorem dL_rights_840 : decode cL_rights 840 = .ok (.ifCond .eq 7, 3) := by decide +kernel
theorem dL_rights_843 : decode cL_rights 843 = .ok (.iconst 1, 1) := by decide +kernel
theorem dL_rights_844 : decode cL_rights 844 = .ok (.goto 4, 3) := by decide +kernel
theorem dL_rights_847 : decode cL_rights 847 = .ok (.iconst 0, 1) := by decide +kernel
theorem dL_rights_848 : decode cL_rights 848 = .ok (.if_icmp .ne 40, 3) := by decide +kernel
theorem dL_rights_851 : decode cL_rights 851 = .ok (.aload_n 1, 1) := by decide +kernel
theorem dL_rights_852 : decode cL_rights 852 = .ok (.bipush 112, 2) := by decide +kernel
theorem dL_rights_854 : decode cL_rights 854 = .ok (.iconst 1, 1) := by decide +kernel
theorem dL_rights_855 : decode cL_rights 855 = .ok (.newarray .int, 2) := by decide +kernel
theorem dL_rights_857 : decode cL_rights 857 = .ok (.dup, 1) := by decide +kernel
theorem dL_rights_858 : decode cL_rights 858 = .ok (.iconst 0, 1) := by decide +kernel
theorem dL_rights_859 : decode cL_rights 859 = .ok (.iload 9, 2) := by decide +kernel
theorem dL_rights_861 : decode cL_rights 861 = .ok (.iastore, 1) := by decide +kernel
theorem dL_rights_862 : decode cL_rights 862 = .ok (.invokestatic 153, 3) := by decide +kernel
theorem dL_rights_865 : decode cL_rights 865 = .ok (.bipush 100, 2) := by decide +kernel
theorem dL_rights_867 : decode cL_rights 867 = .ok (.aload 6, 2) := by decide +kernel
theorem dL_rights_869 : decode cL_rights 869 = .ok (.iload 9, 2) := by decide +kernel
theorem dL_rights_871 : decode cL_rights 871 = .ok (.baload, 1) := by decide +kernel
theorem dL_rights_872 : decode cL_rights 872 = .ok (.ifCond .eq 11, 3) := by decide +kernel
theorem dL_rights_875 : decode cL_rights 875 = .ok (.aload 4, 2) := by decide +kernel
theorem dL_rights_877 : decode cL_rights 877 = .ok (.iload 9, 2) := by decide +kernel
theorem dL_rights_879 : decode cL_rights 879 = .ok (.iaload, 1) := by decide +kernel
theorem dL_rights_880 : decode cL_rights 880 = .ok (.goto 4, 3) := by decide +kernel
theorem dL_rights_883 : decode cL_rights 883 = .ok (.iconst 0, 1) := by decide +kernel
theorem dL_rights_884 : decode cL_rights 884 = .ok (.isub, 1) := by decide +kernel
theorem dL_rights_885 : decode cL_rights 885 = .ok (.if_icmp .eq 5, 3) := by decide +kernel
theorem dL_rights_888 : decode cL_rights 888 = .ok (.iconst 0, 1) := by decide +kernel
theorem dL_rights_889 : decode cL_rights 889 = .ok (.ireturn, 1) := by decide +kernel
theorem dL_rights_890 : decode cL_rights 890 = .ok (.iinc 9 1, 3) := by decide +kernel
theorem dL_rights_893 : decode cL_rights 893 = .ok (.goto (-86), 3) := by decide +kernel
theorem dL_rights_896 : decode cL_rights 896 = .ok (.aload_n 1, 1) := by decide +kernel
theorem dL_rights_897 : decode cL_rights 897 = .ok (.invokevirtual 149, 3) := by decide +kernel
theorem dL_rights_900 : decode cL_rights 900 = .ok (.ireturn, 1) := by decide +kernel
theorem dL_closed_0 : decode cL_closed 0 = .ok (.new 8, 3) := by decide +kernel
theorem dL_closed_3 : decode cL_closed 3 = .ok (.dup, 1) := by decide +kernel
theorem dL_closed_4 : decode cL_closed 4 = .ok (.invokespecial 132, 3) := by decide +kernel
theorem dL_closed_7 : decode cL_closed 7 = .ok (.astore_n 1, 1) := by decide +kernel
theorem dL_closed_8 : decode cL_closed 8 = .ok (.aload_n 0, 1) := by decide +kernel
theorem dL_closed_9 : decode cL_closed 9 = .ok (.bipush 40, 2) := by decide +kernel
theorem dL_closed_11 : decode cL_closed 11 = .ok (.invokestatic 169, 3) := by decide +kernel
theorem dL_closed_14 : decode cL_closed 14 = .ok (.bipush 6, 2) := by decide +kernel
theorem dL_closed_16 : decode cL_closed 16 = .ok (.invokestatic 172, 3) := by decide +kernel
theorem dL_closed_19 : decode cL_closed 19 = .ok (.istore_n 2, 1) := by decide +kernel
theorem dL_closed_20 : decode cL_closed 20 = .ok (.iload_n 2, 1) := by decide +kernel
theorem dL_closed_21 : decode cL_closed 21 = .ok (.iconst 1, 1) := by decide +kernel
theorem dL_closed_22 : decode cL_closed 22 = .ok (.iadd, 1) := by decide +kernel
theorem dL_closed_23 : decode cL_closed 23 = .ok (.aload_n 0, 1) := by decide +kernel
theorem dL_closed_24 : decode cL_closed 24 = .ok (.bipush 41, 2) := by decide +kernel
theorem dL_closed_26 : decode cL_closed 26 = .ok (.invokestatic 169, 3) := by decide +kernel
theorem dL_closed_29 : decode cL_closed 29 = .ok (.iconst 5, 1) := by decide +kernel
theorem dL_closed_30 : decode cL_closed 30 = .ok (.invokestatic 172, 3) := by decide +kernel
theorem dL_closed_33 : decode cL_closed 33 = .ok (.iadd, 1) := by decide +kernel
theorem dL_closed_34 : decode cL_closed 34 = .ok (.bipush 6, 2) := by decide +kernel
theorem dL_closed_36 : decode cL_closed 36 = .ok (.irem, 1) := by decide +kernel
theorem dL_closed_37 : decode cL_closed 37 = .ok (.istore_n 3, 1) := by decide +kernel
theorem dL_closed_38 : decode cL_closed 38 = .ok (.aload_n 1, 1) := by decide +kernel
theorem dL_closed_39 : decode cL_closed 39 = .ok (.bipush 82, 2) := by decide +kernel
theorem dL_closed_41 : decode cL_closed 41 = .ok (.iconst 1, 1) := by decide +kernel
theorem dL_closed_42 : decode cL_closed 42 = .ok (.newarray .int, 2) := by decide +kernel
theorem dL_closed_44 : decode cL_closed 44 = .ok (.dup, 1) := by decide +kernel
theorem dL_closed_45 : decode cL_closed 45 = .ok (.iconst 0, 1) := by decide +kernel
theorem dL_closed_46 : decode cL_closed 46 = .ok (.iconst 2, 1) := by decide +kernel
theorem dL_closed_47 : decode cL_closed 47 = .ok (.iastore, 1) := by decide +kernel
theorem dL_closed_48 : decode cL_closed 48 = .ok (.invokestatic 153, 3) := by decide +kernel
theorem dL_closed_51 : decode cL_closed 51 = .ok (.ifCond .ne 101, 3) := by decide +kernel
theorem dL_closed_54 : decode cL_closed 54 = .ok (.aload_n 1, 1) := by decide +kernel
theorem dL_closed_55 : decode cL_closed 55 = .ok (.bipush 82, 2) := by decide +kernel
theorem dL_closed_57 : decode cL_closed 57 = .ok (.iconst 1, 1) := by decide +kernel
theorem dL_closed_58 : decode cL_closed 58 = .ok (.newarray .int, 2) := by decide +kernel
theorem dL_closed_60 : decode cL_closed 60 = .ok (.dup, 1) := by decide +kernel
theorem dL_closed_61 : decode cL_closed 61 = .ok (.iconst 0, 1) := by decide +kernel
theorem dL_closed_62 : decode cL_closed 62 = .ok (.iconst 1, 1) := by decide +kernel
theorem dL_closed_63 : decode cL_closed 63 = .ok (.iastore, 1) := by decide +kernel
theorem dL_closed_64 : decode cL_closed 64 = .ok (.invokestatic 153, 3) := by decide +kernel
theorem dL_closed_67 : decode cL_closed 67 = .ok (.iconst 1, 1) := by decide +kernel
theorem dL_closed_68 : decode cL_closed 68 = .ok (.if_icmp .ne 84, 3) := by decide +kernel
theorem dL_closed_71 : decode cL_closed 71 = .ok (.aload_n 1, 1) := by decide +kernel
theorem dL_closed_72 : decode cL_closed 72 = .ok (.bipush 69, 2) := by decide +kernel
theorem dL_closed_74 : decode cL_closed 74 = .ok (.iconst 0, 1) := by decide +kernel
theorem dL_closed_75 : decode cL_closed 75 = .ok (.newarray .int, 2) := by decide +kernel
theorem dL_closed_77 : decode cL_closed 77 = .ok (.invokestatic 153, 3) := by decide +kernel
theorem dL_closed_80 : decode cL_closed 80 = .ok (.ifCond .ne 72, 3) := by decide +kernel
theorem dL_closed_83 : decode cL_closed 83 = .ok (.aload_n 1, 1) := by decide +kernel
theorem dL_closed_84 : decode cL_closed 84 = .ok (.bipush 80, 2) := by decide +kernel
theorem dL_closed_86 : decode cL_closed 86 = .ok (.iconst 0, 1) := by decide +kernel
theorem dL_closed_87 : decode cL_closed 87 = .ok (.newarray .int, 2) := by decide +kernel
theorem dL_closed_89 : decode cL_closed 89 = .ok (.invokestatic 153, 3) := by decide +kernel
theorem dL_closed_92 : decode cL_closed 92 = .ok (.ifCond .ne 60, 3) := by decide +kernel
theorem dL_closed_95 : decode cL_closed 95 = .ok (.aload_n 1, 1) := by decide +kernel
theorem dL_closed_96 : decode cL_closed 96 = .ok (.bipush 79, 2) := by decide +kernel
theorem dL_closed_98 : decode cL_closed 98 = .ok (.iconst 4, 1) := by decide +kernel
theorem dL_closed_99 : decode cL_closed 99 = .ok (.newarray .int, 2) := by decide +kernel
theorem dL_closed_101 : decode cL_closed 101 = .ok (.dup, 1) := by decide +kernel
theorem dL_closed_102 : decode cL_closed 102 = .ok (.iconst 0, 1) := by decide +kernel
theorem dL_closed_103 : decode cL_closed 103 = .ok (.iconst 0, 1) := by decide +kernel
theorem dL_closed_104 : decode cL_closed 104 = .ok (.iastore, 1) := by decide +kernel
theorem dL_closed_105 : decode cL_closed 105 = .ok (.dup, 1) := by decide +kernel
theorem dL_closed_106 : decode cL_closed 106 = .ok (.iconst 1, 1) := by decide +kernel
theorem dL_closed_107 : decode cL_closed 107 = .ok (.iload_n 2, 1) := by decide +kernel
theorem dL_closed_108 : decode cL_closed 108 = .ok (.iastore, 1) := by decide +kernel
theorem dL_closed_109 : decode cL_closed 109 = .ok (.dup, 1) := by decide +kernel
theorem dL_closed_110 : decode cL_closed 110 = .ok (.iconst 2, 1) := by decide +kernel
theorem dL_closed_111 : decode cL_closed 111 = .ok (.iconst 0, 1) := by decide +kernel
theorem dL_closed_112 : decode cL_closed 112 = .ok (.iastore, 1) := by decide +kernel
theorem dL_closed_113 : decode cL_closed 113 = .ok (.dup, 1) := by decide +kernel
theorem dL_closed_114 : decode cL_closed 114 = .ok (.iconst 3, 1) := by decide +kernel
theorem dL_closed_115 : decode cL_closed 115 = .ok (.iconst 0, 1) := by decide +kernel
theorem dL_closed_116 : decode cL_closed 116 = .ok (.iastore, 1) := by decide +kernel
theorem dL_closed_117 : decode cL_closed 117 = .ok (.invokestatic 153, 3) := by decide +kernel
theorem dL_closed_120 : decode cL_closed 120 = .ok (.ifCond .ne 32, 3) := by decide +kernel
theorem dL_closed_123 : decode cL_closed 123 = .ok (.aload_n 1, 1) := by decide +kernel
theorem dL_closed_124 : decode cL_closed 124 = .ok (.bipush 79, 2) := by decide +kernel
theorem dL_closed_126 : decode cL_closed 126 = .ok (.iconst 4, 1) := by decide +kernel
theorem dL_closed_127 : decode cL_closed 127 = .ok (.newarray .int, 2) := by decide +kernel
theorem dL_closed_129 : decode cL_closed 129 = .ok (.dup, 1) := by decide +kernel
theorem dL_closed_130 : decode cL_closed 130 = .ok (.iconst 0, 1) := by decide +kernel
theorem dL_closed_131 : decode cL_closed 131 = .ok (.iconst 0, 1) := by decide +kernel
theorem dL_closed_132 : decode cL_closed 132 = .ok (.iastore, 1) := by decide +kernel
theorem dL_closed_133 : decode cL_closed 133 = .ok (.dup, 1) := by decide +kernel
theorem dL_closed_134 : decode cL_closed 134 = .ok (.iconst 1, 1) := by decide +kernel
theorem dL_closed_135 : decode cL_closed 135 = .ok (.iload_n 3, 1) := by decide +kernel
theorem dL_closed_136 : decode cL_closed 136 = .ok (.iastore, 1) := by decide +kernel
theorem dL_closed_137 : decode cL_closed 137 = .ok (.dup, 1) := by decide +kernel
theorem dL_closed_138 : decode cL_closed 138 = .ok (.iconst 2, 1) := by decide +kernel
theorem dL_closed_139 : decode cL_closed 139 = .ok (.iconst 1, 1) := by decide +kernel
theorem dL_closed_140 : decode cL_closed 140 = .ok (.iastore, 1) := by decide +kernel
theorem dL_closed_141 : decode cL_closed 141 = .ok (.dup, 1) := by decide +kernel
theorem dL_closed_142 : decode cL_closed 142 = .ok (.iconst 3, 1) := by decide +kernel
theorem dL_closed_143 : decode cL_closed 143 = .ok (.iconst 1, 1) := by decide +kernel
theorem dL_closed_144 : decode cL_closed 144 = .ok (.iastore, 1) := by decide +kernel
theorem dL_closed_145 : decode cL_closed 145 = .ok (.invokestatic 153, 3) := by decide +kernel
theorem dL_closed_148 : decode cL_closed 148 = .ok (.iconst 1, 1) := by decide +kernel
theorem dL_closed_149 : decode cL_closed 149 = .ok (.if_icmp .eq 5, 3) := by decide +kernel
theorem dL_closed_152 : decode cL_closed 152 = .ok (.iconst 0, 1) := by decide +kernel
theorem dL_closed_153 : decode cL_closed 153 = .ok (.ireturn, 1) := by decide +kernel
theorem dL_closed_154 : decode cL_closed 154 = .ok (.iconst 0, 1) := by decide +kernel
theorem dL_closed_155 : decode cL_closed 155 = .ok (.istore 4, 2) := by decide +kernel
theorem dL_closed_157 : decode cL_closed 157 = .ok (.iload 4, 2) := by decide +kernel
theorem dL_closed_159 : decode cL_closed 159 = .ok (.iconst 3, 1) := by decide +kernel
theorem dL_closed_160 : decode cL_closed 160 = .ok (.if_icmp .ge 45, 3) := by decide +kernel
theorem dL_closed_163 : decode cL_closed 163 = .ok (.aload_n 1, 1) := by decide +kernel
theorem dL_closed_164 : decode cL_closed 164 = .ok (.bipush 120, 2) := by decide +kernel
theorem dL_closed_166 : decode cL_closed 166 = .ok (.iconst 5, 1) := by decide +kernel
theorem dL_closed_167 : decode cL_closed 167 = .ok (.newarray .int, 2) := by decide +kernel
theorem dL_closed_169 : decode cL_closed 169 = .ok (.dup, 1) := by decide +kernel
theorem dL_closed_170 : decode cL_closed 170 = .ok (.iconst 0, 1) := by decide +kernel
theorem dL_closed_171 : decode cL_closed 171 = .ok (.iload 4, 2) := by decide +kernel
theorem dL_closed_173 : decode cL_closed 173 = .ok (.iastore, 1) := by decide +kernel
theorem dL_closed_174 : decode cL_closed 174 = .ok (.dup, 1) := by decide +kernel
theorem dL_closed_175 : decode cL_closed 175 = .ok (.iconst 1, 1) := by decide +kernel
theorem dL_closed_176 : decode cL_closed 176 = .ok (.iconst 0, 1) := by decide +kernel
theorem dL_closed_177 : decode cL_closed 177 = .ok (.iastore, 1) := by decide +kernel
theorem dL_closed_178 : decode cL_closed 178 = .ok (.dup, 1) := by decide +kernel
theorem dL_closed_179 : decode cL_closed 179 = .ok (.iconst 2, 1) := by decide +kernel
theorem dL_closed_180 : decode cL_closed 180 = .ok (.iconst 0, 1) := by decide +kernel
theorem dL_closed_181 : decode cL_closed 181 = .ok (.iastore, 1) := by decide +kernel
theorem dL_closed_182 : decode cL_closed 182 = .ok (.dup, 1) := by decide +kernel
theorem dL_closed_183 : decode cL_closed 183 = .ok (.iconst 3, 1) := by decide +kernel
theorem dL_closed_184 : decode cL_closed 184 = .ok (.bipush 114, 2) := by decide +kernel
theorem dL_closed_186 : decode cL_closed 186 = .ok (.iastore, 1) := by decide +kernel
theorem dL_closed_187 : decode cL_closed 187 = .ok (.dup, 1) := by decide +kernel
theorem dL_closed_188 : decode cL_closed 188 = .ok (.iconst 4, 1) := by decide +kernel
theorem dL_closed_189 : decode cL_closed 189 = .ok (.iconst 1, 1) := by decide +kernel
theorem dL_closed_190 : decode cL_closed 190 = .ok (.iastore, 1) := by decide +kernel
theorem dL_closed_191 : decode cL_closed 191 = .ok (.invokestatic 153, 3) := by decide +kernel
theorem dL_closed_194 : decode cL_closed 194 = .ok (.ifCond .eq 5, 3) := by decide +kernel
theorem dL_closed_197 : decode cL_closed 197 = .ok (.iconst 0, 1) := by decide +kernel
theorem dL_closed_198 : decode cL_closed 198 = .ok (.ireturn, 1) := by decide +kernel
theorem dL_closed_199 : decode cL_closed 199 = .ok (.iinc 4 1, 3) := by decide +kernel
theorem dL_closed_202 : decode cL_closed 202 = .ok (.goto (-45), 3) := by decide +kernel
theorem dL_closed_205 : decode cL_closed 205 = .ok (.aload_n 1, 1) := by decide +kernel
theorem dL_closed_206 : decode cL_closed 206 = .ok (.bipush 98, 2) := by decide +kernel
theorem dL_closed_208 : decode cL_closed 208 = .ok (.iconst 3, 1) := by decide +kernel
theorem dL_closed_209 : decode cL_closed 209 = .ok (.newarray .int, 2) := by decide +kernel
theorem dL_closed_211 : decode cL_closed 211 = .ok (.dup, 1) := by decide +kernel
theorem dL_closed_212 : decode cL_closed 212 = .ok (.iconst 0, 1) := by decide +kernel
theorem dL_closed_213 : decode cL_closed 213 = .ok (.iconst 0, 1) := by decide +kernel
theorem dL_closed_214 : decode cL_closed 214 = .ok (.iastore, 1) := by decide +kernel
theorem dL_closed_215 : decode cL_closed 215 = .ok (.dup, 1) := by decide +kernel
theorem dL_closed_216 : decode cL_closed 216 = .ok (.iconst 1, 1) := by decide +kernel
theorem dL_closed_217 : decode cL_closed 217 = .ok (.iconst 0, 1) := by decide +kernel
theorem dL_closed_218 : decode cL_closed 218 = .ok (.iastore, 1) := by decide +kernel
theorem dL_closed_219 : decode cL_closed 219 = .ok (.dup, 1) := by decide +kernel
theorem dL_closed_220 : decode cL_closed 220 = .ok (.iconst 2, 1) := by decide +kernel
theorem dL_closed_221 : decode cL_closed 221 = .ok (.bipush 40, 2) := by decide +kernel
theorem dL_closed_223 : decode cL_closed 223 = .ok (.iastore, 1) := by decide +kernel
theorem dL_closed_224 : decode cL_closed 224 = .ok (.invokestatic 153, 3) := by decide +kernel
theorem dL_closed_227 : decode cL_closed 227 = .ok (.bipush 40, 2) := by decide +kernel
theorem dL_closed_229 : decode cL_closed 229 = .ok (.if_icmp .ne 136, 3) := by decide +kernel
theorem dL_closed_232 : decode cL_closed 232 = .ok (.aload_n 1, 1) := by decide +kernel
theorem dL_closed_233 : decode cL_closed 233 = .ok (.bipush 98, 2) := by decide +kernel
theorem dL_closed_235 : decode cL_closed 235 = .ok (.iconst 3, 1) := by decide +kernel
theorem dL_closed_236 : decode cL_closed 236 = .ok (.newarray .int, 2) := by decide +kernel
theorem dL_closed_238 : decode cL_closed 238 = .ok (.dup, 1) := by decide +kernel
theorem dL_closed_239 : decode cL_closed 239 = .ok (.iconst 0, 1) := by decide +kernel
theorem dL_closed_240 : decode cL_closed 240 = .ok (.iconst 0, 1) := by decide +kernel
theorem dL_closed_241 : decode cL_closed 241 = .ok (.iastore, 1) := by decide +kernel
theorem dL_closed_242 : decode cL_closed 242 = .ok (.dup, 1) := by decide +kernel
theorem dL_closed_243 : decode cL_closed 243 = .ok (.iconst 1, 1) := by decide +kernel
theorem dL_closed_244 : decode cL_closed 244 = .ok (.iconst 1, 1) := by decide +kernel
theorem dL_closed_245 : decode cL_closed 245 = .ok (.iastore, 1) := by decide +kernel
theorem dL_closed_246 : decode cL_closed 246 = .ok (.dup, 1) := by decide +kernel
theorem dL_closed_247 : decode cL_closed 247 = .ok (.iconst 2, 1) := by decide +kernel
theorem dL_closed_248 : decode cL_closed 248 = .ok (.bipush 61, 2) := by decide +kernel
theorem dL_closed_250 : decode cL_closed 250 = .ok (.iastore, 1) := by decide +kernel
theorem dL_closed_251 : decode cL_closed 251 = .ok (.invokestatic 153, 3) := by decide +kernel
theorem dL_closed_254 : decode cL_closed 254 = .ok (.ldc 118, 2) := by decide +kernel
theorem dL_closed_256 : decode cL_closed 256 = .ok (.if_icmp .ne 109, 3) := by decide +kernel
theorem dL_closed_259 : decode cL_closed 259 = .ok (.aload_n 1, 1) := by decide +kernel
theorem dL_closed_260 : decode cL_closed 260 = .ok (.bipush 98, 2) := by decide +kernel
theorem dL_closed_262 : decode cL_closed 262 = .ok (.iconst 3, 1) := by decide +kernel
theorem dL_closed_263 : decode cL_closed 263 = .ok (.newarray .int, 2) := by decide +kernel
theorem dL_closed_265 : decode cL_closed 265 = .ok (.dup, 1) := by decide +kernel
theorem dL_closed_266 : decode cL_closed 266 = .ok (.iconst 0, 1) := by decide +kernel
theorem dL_closed_267 : decode cL_closed 267 = .ok (.iconst 0, 1) := by decide +kernel
theorem dL_closed_268 : decode cL_closed 268 = .ok (.iastore, 1) := by decide +kernel
theorem dL_closed_269 : decode cL_closed 269 = .ok (.dup, 1) := by decide +kernel
theorem dL_closed_270 : decode cL_closed 270 = .ok (.iconst 1, 1) := by decide +kernel
theorem dL_closed_271 : decode cL_closed 271 = .ok (.iconst 1, 1) := by decide +kernel
theorem dL_closed_272 : decode cL_closed 272 = .ok (.iastore, 1) := by decide +kernel
theorem dL_closed_273 : decode cL_closed 273 = .ok (.dup, 1) := by decide +kernel
theorem dL_closed_274 : decode cL_closed 274 = .ok (.iconst 2, 1) := by decide +kernel
theorem dL_closed_275 : decode cL_closed 275 = .ok (.bipush 60, 2) := by decide +kernel
theorem dL_closed_277 : decode cL_closed 277 = .ok (.iastore, 1) := by decide +kernel
theorem dL_closed_278 : decode cL_closed 278 = .ok (.invokestatic 153, 3) := by decide +kernel
theorem dL_closed_281 : decode cL_closed 281 = .ok (.bipush 100, 2) := by decide +kernel
theorem dL_closed_283 : decode cL_closed 283 = .ok (.if_icmp .ne 82, 3) := by decide +kernel
theorem dL_closed_286 : decode cL_closed 286 = .ok (.aload_n 1, 1) := by decide +kernel
theorem dL_closed_287 : decode cL_closed 287 = .ok (.bipush 98, 2) := by decide +kernel
theorem dL_closed_289 : decode cL_closed 289 = .ok (.iconst 3, 1) := by decide +kernel
theorem dL_closed_290 : decode cL_closed 290 = .ok (.newarray .int, 2) := by decide +kernel
theorem dL_closed_292 : decode cL_closed 292 = .ok (.dup, 1) := by decide +kernel
theorem dL_closed_293 : decode cL_closed 293 = .ok (.iconst 0, 1) := by decide +kernel
theorem dL_closed_294 : decode cL_closed 294 = .ok (.iconst 0, 1) := by decide +kernel
theorem dL_closed_295 : decode cL_closed 295 = .ok (.iastore, 1) := by decide +kernel
theorem dL_closed_296 : decode cL_closed 296 = .ok (.dup, 1) := by decide +kernel
theorem dL_closed_297 : decode cL_closed 297 = .ok (.iconst 1, 1) := by decide +kernel
theorem dL_closed_298 : decode cL_closed 298 = .ok (.iconst 0, 1) := by decide +kernel
theorem dL_closed_299 : decode cL_closed 299 = .ok (.iastore, 1) := by decide +kernel
theorem dL_closed_300 : decode cL_closed 300 = .ok (.dup, 1) := by decide +kernel
theorem dL_closed_301 : decode cL_closed 301 = .ok (.iconst 2, 1) := by decide +kernel
theorem dL_closed_302 : decode cL_closed 302 = .ok (.bipush 10, 2) := by decide +kernel
theorem dL_closed_304 : decode cL_closed 304 = .ok (.iastore, 1) := by decide +kernel
theorem dL_closed_305 : decode cL_closed 305 = .ok (.invokestatic 153, 3) := by decide +kernel
theorem dL_closed_308 : decode cL_closed 308 = .ok (.bipush 70, 2) := by decide +kernel
theorem dL_closed_310 : decode cL_closed 310 = .ok (.if_icmp .ne 55, 3) := by decide +kernel
theorem dL_closed_313 : decode cL_closed 313 = .ok (.aload_n 1, 1) := by decide +kernel
theorem dL_closed_314 : decode cL_closed 314 = .ok (.invokevirtual 137, 3) := by decide +kernel
theorem dL_closed_317 : decode cL_closed 317 = .ok (.iconst 2, 1) := by decide +kernel
theorem dL_closed_318 : decode cL_closed 318 = .ok (.if_icmp .ne 47, 3) := by decide +kernel
theorem dL_closed_321 : decode cL_closed 321 = .ok (.aload_n 1, 1) := by decide +kernel
theorem dL_closed_322 : decode cL_closed 322 = .ok (.bipush 117, 2) := by decide +kernel
theorem dL_closed_324 : decode cL_closed 324 = .ok (.iconst 2, 1) := by decide +kernel
theorem dL_closed_325 : decode cL_closed 325 = .ok (.newarray .int, 2) := by decide +kernel
theorem dL_closed_327 : decode cL_closed 327 = .ok (.dup, 1) := by decide +kernel
theorem dL_closed_328 : decode cL_closed 328 = .ok (.iconst 0, 1) := by decide +kernel
theorem dL_closed_329 : decode cL_closed 329 = .ok (.iconst 0, 1) := by decide +kernel
theorem dL_closed_330 : decode cL_closed 330 = .ok (.iastore, 1) := by decide +kernel
theorem dL_closed_331 : decode cL_closed 331 = .ok (.dup, 1) := by decide +kernel
theorem dL_closed_332 : decode cL_closed 332 = .ok (.iconst 1, 1) := by decide +kernel
theorem dL_closed_333 : decode cL_closed 333 = .ok (.iconst 1, 1) := by decide +kernel
theorem dL_closed_334 : decode cL_closed 334 = .ok (.iastore, 1) := by decide +kernel
theorem dL_closed_335 : decode cL_closed 335 = .ok (.invokestatic 153, 3) := by decide +kernel
theorem dL_closed_338 : decode cL_closed 338 = .ok (.bipush 60, 2) := by decide +kernel
theorem dL_closed_340 : decode cL_closed 340 = .ok (.if_icmp .ne 25, 3) := by decide +kernel
theorem dL_closed_343 : decode cL_closed 343 = .ok (.aload_n 1, 1) := by decide +kernel
theorem dL_closed_344 : decode cL_closed 344 = .ok (.bipush 117, 2) := by decide +kernel
theorem dL_closed_346 : decode cL_closed 346 = .ok (.iconst 2, 1) := by decide +kernel
theorem dL_closed_347 : decode cL_closed 347 = .ok (.newarray .int, 2) := by decide +kernel
theorem dL_closed_349 : decode cL_closed 349 = .ok (.dup, 1) := by decide +kernel
theorem dL_closed_350 : decode cL_closed 350 = .ok (.iconst 0, 1) := by decide +kernel
theorem dL_closed_351 : decode cL_closed 351 = .ok (.iconst 0, 1) := by decide +kernel
theorem dL_closed_352 : decode cL_closed 352 = .ok (.iastore, 1) := by decide +kernel
theorem dL_closed_353 : decode cL_closed 353 = .ok (.dup, 1) := by decide +kernel
theorem dL_closed_354 : decode cL_closed 354 = .ok (.iconst 1, 1) := by decide +kernel
theorem dL_closed_355 : decode cL_closed 355 = .ok (.iconst 1, 1) := by decide +kernel
theorem dL_closed_356 : decode cL_closed 356 = .ok (.iastore, 1) := by decide +kernel
theorem dL_closed_357 : decode cL_closed 357 = .ok (.invokestatic 153, 3) := by decide +kernel
theorem dL_closed_360 : decode cL_closed 360 = .ok (.ldc 121, 2) := by decide +kernel
theorem dL_closed_362 : decode cL_closed 362 = .ok (.if_icmp .eq 5, 3) := by decide +kernel
theorem dL_closed_365 : decode cL_closed 365 = .ok (.iconst 0, 1) := by decide +kernel
theorem dL_closed_366 : decode cL_closed 366 = .ok (.ireturn, 1) := by decide +kernel
theorem dL_closed_367 : decode cL_closed 367 = .ok (.aload_n 1, 1) := by decide +kernel
theorem dL_closed_368 : decode cL_closed 368 = .ok (.bipush 99, 2) := by decide +kernel
theorem dL_closed_370 : decode cL_closed 370 = .ok (.iconst 1, 1) := by decide +kernel
theorem dL_closed_371 : decode cL_closed 371 = .ok (.newarray .int, 2) := by decide +kernel
theorem dL_closed_373 : decode cL_closed 373 = .ok (.dup, 1) := by decide +kernel
theorem dL_closed_374 : decode cL_closed 374 = .ok (.iconst 0, 1) := by decide +kernel
theorem dL_closed_375 : decode cL_closed 375 = .ok (.iload_n 2, 1) := by decide +kernel
theorem dL_closed_376 : decode cL_closed 376 = .ok (.iastore, 1) := by decide +kernel
theorem dL_closed_377 : decode cL_closed 377 = .ok (.invokestatic 153, 3) := by decide +kernel
theorem dL_closed_380 : decode cL_closed 380 = .ok (.ifCond .ne 87, 3) := by decide +kernel
theorem dL_closed_383 : decode cL_closed 383 = .ok (.aload_n 1, 1) := by decide +kernel
theorem dL_closed_384 : decode cL_closed 384 = .ok (.bipush 99, 2) := by decide +kernel
theorem dL_closed_386 : decode cL_closed 386 = .ok (.iconst 1, 1) := by decide +kernel
theorem dL_closed_387 : decode cL_closed 387 = .ok (.newarray .int, 2) := by decide +kernel
theorem dL_closed_389 : decode cL_closed 389 = .ok (.dup, 1) := by decide +kernel
theorem dL_closed_390 : decode cL_closed 390 = .ok (.iconst 0, 1) := by decide +kernel
theorem dL_closed_391 : decode cL_closed 391 = .ok (.iload_n 2, 1) := by decide +kernel
theorem dL_closed_392 : decode cL_closed 392 = .ok (.iastore, 1) := by decide +kernel
theorem dL_closed_393 : decode cL_closed 393 = .ok (.invokestatic 153, 3) := by decide +kernel
theorem dL_closed_396 : decode cL_closed 396 = .ok (.ldc 118, 2) := by decide +kernel
theorem dL_closed_398 : decode cL_closed 398 = .ok (.if_icmp .ne 69, 3) := by decide +kernel
theorem dL_closed_401 : decode cL_closed 401 = .ok (.aload_n 1, 1) := by decide +kernel
theorem dL_closed_402 : decode cL_closed 402 = .ok (.invokevirtual 137, 3) := by decide +kernel
theorem dL_closed_405 : decode cL_closed 405 = .ok (.iconst 1, 1) := by decide +kernel
theorem dL_closed_406 : decode cL_closed 406 = .ok (.if_icmp .ne 61, 3) := by decide +kernel
theorem dL_closed_409 : decode cL_closed 409 = .ok (.aload_n 1, 1) := by decide +kernel
theorem dL_closed_410 : decode cL_closed 410 = .ok (.bipush 98, 2) := by decide +kernel
theorem dL_closed_412 : decode cL_closed 412 = .ok (.iconst 3, 1) := by decide +kernel
theorem dL_closed_413 : decode cL_closed 413 = .ok (.newarray .int, 2) := by decide +kernel
theorem dL_closed_415 : decode cL_closed 415 = .ok (.dup, 1) := by decide +kernel
theorem dL_closed_416 : decode cL_closed 416 = .ok (.iconst 0, 1) := by decide +kernel
theorem dL_closed_417 : decode cL_closed 417 = .ok (.iconst 0, 1) := by decide +kernel
theorem dL_closed_418 : decode cL_closed 418 = .ok (.iastore, 1) := by decide +kernel
theorem dL_closed_419 : decode cL_closed 419 = .ok (.dup, 1) := by decide +kernel
theorem dL_closed_420 : decode cL_closed 420 = .ok (.iconst 1, 1) := by decide +kernel
theorem dL_closed_421 : decode cL_closed 421 = .ok (.iconst 0, 1) := by decide +kernel
theorem dL_closed_422 : decode cL_closed 422 = .ok (.iastore, 1) := by decide +kernel
theorem dL_closed_423 : decode cL_closed 423 = .ok (.dup, 1) := by decide +kernel
theorem dL_closed_424 : decode cL_closed 424 = .ok (.iconst 2, 1) := by decide +kernel
theorem dL_closed_425 : decode cL_closed 425 = .ok (.iconst 5, 1) := by decide +kernel
theorem dL_closed_426 : decode cL_closed 426 = .ok (.iastore, 1) := by decide +kernel
theorem dL_closed_427 : decode cL_closed 427 = .ok (.invokestatic 153, 3) := by decide +kernel
theorem dL_closed_430 : decode cL_closed 430 = .ok (.ldc 118, 2) := by decide +kernel
theorem dL_closed_432 : decode cL_closed 432 = .ok (.if_icmp .ne 35, 3) := by decide +kernel
theorem dL_closed_435 : decode cL_closed 435 = .ok (.aload_n 1, 1) := by decide +kernel
theorem dL_closed_436 : decode cL_closed 436 = .ok (.invokevirtual 140, 3) := by decide +kernel
theorem dL_closed_439 : decode cL_closed 439 = .ok (.ifCond .ne 28, 3) := by decide +kernel
theorem dL_closed_442 : decode cL_closed 442 = .ok (.aload_n 1, 1) := by decide +kernel
theorem dL_closed_443 : decode cL_closed 443 = .ok (.invokevirtual 137, 3) := by decide +kernel
theorem dL_closed_446 : decode cL_closed 446 = .ok (.ifCond .ne 21, 3) := by decide +kernel
theorem dL_closed_449 : decode cL_closed 449 = .ok (.aload_n 1, 1) := by decide +kernel
theorem dL_closed_450 : decode cL_closed 450 = .ok (.bipush 112, 2) := by decide +kernel
theorem dL_closed_452 : decode cL_closed 452 = .ok (.iconst 1, 1) := by decide +kernel
theorem dL_closed_453 : decode cL_closed 453 = .ok (.newarray .int, 2) := by decide +kernel
theorem dL_closed_455 : decode cL_closed 455 = .ok (.dup, 1) := by decide +kernel
theorem dL_closed_456 : decode cL_closed 456 = .ok (.iconst 0, 1) := by decide +kernel
theorem dL_closed_457 : decode cL_closed 457 = .ok (.iconst 0, 1) := by decide +kernel
theorem dL_closed_458 : decode cL_closed 458 = .ok (.iastore, 1) := by decide +kernel
theorem dL_closed_459 : decode cL_closed 459 = .ok (.invokestatic 153, 3) := by decide +kernel
theorem dL_closed_462 : decode cL_closed 462 = .ok (.bipush 100, 2) := by decide +kernel
theorem dL_closed_464 : decode cL_closed 464 = .ok (.if_icmp .eq 5, 3) := by decide +kernel
theorem dL_closed_467 : decode cL_closed 467 = .ok (.iconst 0, 1) := by decide +kernel
theorem dL_closed_468 : decode cL_closed 468 = .ok (.ireturn, 1) := by decide +kernel
theorem dL_closed_469 : decode cL_closed 469 = .ok (.aload_n 1, 1) := by decide +kernel
theorem dL_closed_470 : decode cL_closed 470 = .ok (.bipush 79, 2) := by decide +kernel
theorem dL_closed_472 : decode cL_closed 472 = .ok (.iconst 4, 1) := by decide +kernel
theorem dL_closed_473 : decode cL_closed 473 = .ok (.newarray .int, 2) := by decide +kernel
theorem dL_closed_475 : decode cL_closed 475 = .ok (.dup, 1) := by decide +kernel
theorem dL_closed_476 : decode cL_closed 476 = .ok (.iconst 0, 1) := by decide +kernel
theorem dL_closed_477 : decode cL_closed 477 = .ok (.iconst 0, 1) := by decide +kernel
theorem dL_closed_478 : decode cL_closed 478 = .ok (.iastore, 1) := by decide +kernel
theorem dL_closed_479 : decode cL_closed 479 = .ok (.dup, 1) := by decide +kernel
theorem dL_closed_480 : decode cL_closed 480 = .ok (.iconst 1, 1) := by decide +kernel
theorem dL_closed_481 : decode cL_closed 481 = .ok (.iload_n 2, 1) := by decide +kernel
theorem dL_closed_482 : decode cL_closed 482 = .ok (.iastore, 1) := by decide +kernel
theorem dL_closed_483 : decode cL_closed 483 = .ok (.dup, 1) := by decide +kernel
theorem dL_closed_484 : decode cL_closed 484 = .ok (.iconst 2, 1) := by decide +kernel
theorem dL_closed_485 : decode cL_closed 485 = .ok (.iconst 1, 1) := by decide +kernel
theorem dL_closed_486 : decode cL_closed 486 = .ok (.iastore, 1) := by decide +kernel
theorem dL_closed_487 : decode cL_closed 487 = .ok (.dup, 1) := by decide +kernel
theorem dL_closed_488 : decode cL_closed 488 = .ok (.iconst 3, 1) := by decide +kernel
theorem dL_closed_489 : decode cL_closed 489 = .ok (.iconst 0, 1) := by decide +kernel
theorem dL_closed_490 : decode cL_closed 490 = .ok (.iastore, 1) := by decide +kernel
theorem dL_closed_491 : decode cL_closed 491 = .ok (.invokestatic 153, 3) := by decide +kernel
theorem dL_closed_494 : decode cL_closed 494 = .ok (.ldc 118, 2) := by decide +kernel
theorem dL_closed_496 : decode cL_closed 496 = .ok (.if_icmp .ne 158, 3) := by decide +kernel
theorem dL_closed_499 : decode cL_closed 499 = .ok (.aload_n 1, 1) := by decide +kernel
theorem dL_closed_500 : decode cL_closed 500 = .ok (.bipush 109, 2) := by decide +kernel
theorem dL_closed_502 : decode cL_closed 502 = .ok (.iconst 2, 1) := by decide +kernel
theorem dL_closed_503 : decode cL_closed 503 = .ok (.newarray .int, 2) := by decide +kernel
theorem dL_closed_505 : decode cL_closed 505 = .ok (.dup, 1) := by decide +kernel
theorem dL_closed_506 : decode cL_closed 506 = .ok (.iconst 0, 1) := by decide +kernel
theorem dL_closed_507 : decode cL_closed 507 = .ok (.iconst 0, 1) := by decide +kernel
theorem dL_closed_508 : decode cL_closed 508 = .ok (.iastore, 1) := by decide +kernel
theorem dL_closed_509 : decode cL_closed 509 = .ok (.dup, 1) := by decide +kernel
theorem dL_closed_510 : decode cL_closed 510 = .ok (.iconst 1, 1) := by decide +kernel
theorem dL_closed_511 : decode cL_closed 511 = .ok (.iload_n 3, 1) := by decide +kernel
theorem dL_closed_512 : decode cL_closed 512 = .ok (.iastore, 1) := by decide +kernel
theorem dL_closed_513 : decode cL_closed 513 = .ok (.invokestatic 153, 3) := by decide +kernel
theorem dL_closed_516 : decode cL_closed 516 = .ok (.ldc 118, 2) := by decide +kernel
theorem dL_closed_518 : decode cL_closed 518 = .ok (.if_icmp .ne 136, 3) := by decide +kernel
theorem dL_closed_521 : decode cL_closed 521 = .ok (.aload_n 1, 1) := by decide +kernel
theorem dL_closed_522 : decode cL_closed 522 = .ok (.bipush 109, 2) := by decide +kernel
theorem dL_closed_524 : decode cL_closed 524 = .ok (.iconst 2, 1) := by decide +kernel
theorem dL_closed_525 : decode cL_closed 525 = .ok (.newarray .int, 2) := by decide +kernel
theorem dL_closed_527 : decode cL_closed 527 = .ok (.dup, 1) := by decide +kernel
theorem dL_closed_528 : decode cL_closed 528 = .ok (.iconst 0, 1) := by decide +kernel
theorem dL_closed_529 : decode cL_closed 529 = .ok (.iconst 1, 1) := by decide +kernel
theorem dL_closed_530 : decode cL_closed 530 = .ok (.iastore, 1) := by decide +kernel
theorem dL_closed_531 : decode cL_closed 531 = .ok (.dup, 1) := by decide +kernel
theorem dL_closed_532 : decode cL_closed 532 = .ok (.iconst 1, 1) := by decide +kernel
theorem dL_closed_533 : decode cL_closed 533 = .ok (.iload_n 2, 1) := by decide +kernel
theorem dL_closed_534 : decode cL_closed 534 = .ok (.iastore, 1) := by decide +kernel
theorem dL_closed_535 : decode cL_closed 535 = .ok (.invokestatic 153, 3) := by decide +kernel
theorem dL_closed_538 : decode cL_closed 538 = .ok (.ldc 118, 2) := by decide +kernel
theorem dL_closed_540 : decode cL_closed 540 = .ok (.if_icmp .ne 114, 3) := by decide +kernel
theorem dL_closed_543 : decode cL_closed 543 = .ok (.aload_n 1, 1) := by decide +kernel
theorem dL_closed_544 : decode cL_closed 544 = .ok (.bipush 109, 2) := by decide +kernel
theorem dL_closed_546 : decode cL_closed 546 = .ok (.iconst 2, 1) := by decide +kernel
theorem dL_closed_547 : decode cL_closed 547 = .ok (.newarray .int, 2) := by decide +kernel
theorem dL_closed_549 : decode cL_closed 549 = .ok (.dup, 1) := by decide +kernel
theorem dL_closed_550 : decode cL_closed 550 = .ok (.iconst 0, 1) := by decide +kernel
theorem dL_closed_551 : decode cL_closed 551 = .ok (.iconst 1, 1) := by decide +kernel
theorem dL_closed_552 : decode cL_closed 552 = .ok (.iastore, 1) := by decide +kernel
theorem dL_closed_553 : decode cL_closed 553 = .ok (.dup, 1) := by decide +kernel
theorem dL_closed_554 : decode cL_closed 554 = .ok (.iconst 1, 1) := by decide +kernel
theorem dL_closed_555 : decode cL_closed 555 = .ok (.iload_n 3, 1) := by decide +kernel
theorem dL_closed_556 : decode cL_closed 556 = .ok (.iastore, 1) := by decide +kernel
theorem dL_closed_557 : decode cL_closed 557 = .ok (.invokestatic 153, 3) := by decide +kernel
theorem dL_closed_560 : decode cL_closed 560 = .ok (.ldc 118, 2) := by decide +kernel
theorem dL_closed_562 : decode cL_closed 562 = .ok (.if_icmp .ne 92, 3) := by decide +kernel
theorem dL_closed_565 : decode cL_closed 565 = .ok (.aload_n 1, 1) := by decide +kernel
theorem dL_closed_566 : decode cL_closed 566 = .ok (.bipush 109, 2) := by decide +kernel
theorem dL_closed_568 : decode cL_closed 568 = .ok (.iconst 2, 1) := by decide +kernel
theorem dL_closed_569 : decode cL_closed 569 = .ok (.newarray .int, 2) := by decide +kernel
theorem dL_closed_571 : decode cL_closed 571 = .ok (.dup, 1) := by decide +kernel
theorem dL_closed_572 : decode cL_closed 572 = .ok (.iconst 0, 1) := by decide +kernel
theorem dL_closed_573 : decode cL_closed 573 = .ok (.iconst 1, 1) := by decide +kernel
theorem dL_closed_574 : decode cL_closed 574 = .ok (.iastore, 1) := by decide +kernel
theorem dL_closed_575 : decode cL_closed 575 = .ok (.dup, 1) := by decide +kernel
theorem dL_closed_576 : decode cL_closed 576 = .ok (.iconst 1, 1) := by decide +kernel
theorem dL_closed_577 : decode cL_closed 577 = .ok (.bipush 6, 2) := by decide +kernel
theorem dL_closed_579 : decode cL_closed 579 = .ok (.iastore, 1) := by decide +kernel
theorem dL_closed_580 : decode cL_closed 580 = .ok (.invokestatic 153, 3) := by decide +kernel
theorem dL_closed_583 : decode cL_closed 583 = .ok (.ldc 112, 2) := by decide +kernel
theorem dL_closed_585 : decode cL_closed 585 = .ok (.if_icmp .ne 69, 3) := by decide +kernel
theorem dL_closed_588 : decode cL_closed 588 = .ok (.aload_n 1, 1) := by decide +kernel
theorem dL_closed_589 : decode cL_closed 589 = .ok (.bipush 103, 2) := by decide +kernel
theorem dL_closed_591 : decode cL_closed 591 = .ok (.iconst 2, 1) := by decide +kernel
theorem dL_closed_592 : decode cL_closed 592 = .ok (.newarray .int, 2) := by decide +kernel
theorem dL_closed_594 : decode cL_closed 594 = .ok (.dup, 1) := by decide +kernel
theorem dL_closed_595 : decode cL_closed 595 = .ok (.iconst 0, 1) := by decide +kernel
theorem dL_closed_596 : decode cL_closed 596 = .ok (.iconst 0, 1) := by decide +kernel
theorem dL_closed_597 : decode cL_closed 597 = .ok (.iastore, 1) := by decide +kernel
theorem dL_closed_598 : decode cL_closed 598 = .ok (.dup, 1) := by decide +kernel
theorem dL_closed_599 : decode cL_closed 599 = .ok (.iconst 1, 1) := by decide +kernel
theorem dL_closed_600 : decode cL_closed 600 = .ok (.iconst 0, 1) := by decide +kernel
theorem dL_closed_601 : decode cL_closed 601 = .ok (.iastore, 1) := by decide +kernel
theorem dL_closed_602 : decode cL_closed 602 = .ok (.invokestatic 153, 3) := by decide +kernel
theorem dL_closed_605 : decode cL_closed 605 = .ok (.ldc 118, 2) := by decide +kernel
theorem dL_closed_607 : decode cL_closed 607 = .ok (.if_icmp .ne 47, 3) := by decide +kernel
theorem dL_closed_610 : decode cL_closed 610 = .ok (.aload_n 1, 1) := by decide +kernel
theorem dL_closed_611 : decode cL_closed 611 = .ok (.bipush 107, 2) := by decide +kernel
theorem dL_closed_613 : decode cL_closed 613 = .ok (.iconst 3, 1) := by decide +kernel
theorem dL_closed_614 : decode cL_closed 614 = .ok (.newarray .int, 2) := by decide +kernel
theorem dL_closed_616 : decode cL_closed 616 = .ok (.dup, 1) := by decide +kernel
theorem dL_closed_617 : decode cL_closed 617 = .ok (.iconst 0, 1) := by decide +kernel
theorem dL_closed_618 : decode cL_closed 618 = .ok (.iconst 0, 1) := by decide +kernel
theorem dL_closed_619 : decode cL_closed 619 = .ok (.iastore, 1) := by decide +kernel
theorem dL_closed_620 : decode cL_closed 620 = .ok (.dup, 1) := by decide +kernel
theorem dL_closed_621 : decode cL_closed 621 = .ok (.iconst 1, 1) := by decide +kernel
theorem dL_closed_622 : decode cL_closed 622 = .ok (.iconst 0, 1) := by decide +kernel
theorem dL_closed_623 : decode cL_closed 623 = .ok (.iastore, 1) := by decide +kernel
theorem dL_closed_624 : decode cL_closed 624 = .ok (.dup, 1) := by decide +kernel
theorem dL_closed_625 : decode cL_closed 625 = .ok (.iconst 2, 1) := by decide +kernel
theorem dL_closed_626 : decode cL_closed 626 = .ok (.iconst 0, 1) := by decide +kernel
theorem dL_closed_627 : decode cL_closed 627 = .ok (.iastore, 1) := by decide +kernel
theorem dL_closed_628 : decode cL_closed 628 = .ok (.invokestatic 153, 3) := by decide +kernel
theorem dL_closed_631 : decode cL_closed 631 = .ok (.ifCond .ne 23, 3) := by decide +kernel
theorem dL_closed_634 : decode cL_closed 634 = .ok (.aload_n 1, 1) := by decide +kernel
theorem dL_closed_635 : decode cL_closed 635 = .ok (.invokevirtual 122, 3) := by decide +kernel
theorem dL_closed_638 : decode cL_closed 638 = .ok (.fconst 0, 1) := by decide +kernel
theorem dL_closed_639 : decode cL_closed 639 = .ok (.fcmp .l, 1) := by decide +kernel
theorem dL_closed_640 : decode cL_closed 640 = .ok (.ifCond .ne 14, 3) := by decide +kernel
theorem dL_closed_643 : decode cL_closed 643 = .ok (.aload_n 1, 1) := by decide +kernel
theorem dL_closed_644 : decode cL_closed 644 = .ok (.invokevirtual 149, 3) := by decide +kernel
theorem dL_closed_647 : decode cL_closed 647 = .ok (.ifCond .eq 7, 3) := by decide +kernel
theorem dL_closed_650 : decode cL_closed 650 = .ok (.iconst 1, 1) := by decide +kernel
theorem dL_closed_651 : decode cL_closed 651 = .ok (.goto 4, 3) := by decide +kernel
theorem dL_closed_654 : decode cL_closed 654 = .ok (.iconst 0, 1) := by decide +kernel
theorem dL_closed_655 : decode cL_closed 655 = .ok (.ireturn, 1) := by decide +kernel
