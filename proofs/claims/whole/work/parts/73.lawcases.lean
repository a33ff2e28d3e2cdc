/-! the law: its cases -/
abbrev cL : ByteArray := code
theorem dL_220 : decode cL 220 = .ok (.aload_n 1, 1) := by decide +kernel
theorem dL_221 : decode cL 221 = .ok (.aload_n 0, 1) := by decide +kernel
theorem dL_222 : decode cL 222 = .ok (.iload_n 3, 1) := by decide +kernel
theorem dL_223 : decode cL 223 = .ok (.iconst 1, 1) := by decide +kernel
theorem dL_224 : decode cL 224 = .ok (.iadd, 1) := by decide +kernel
theorem dL_225 : decode cL 225 = .ok (.iaload, 1) := by decide +kernel
theorem dL_226 : decode cL 226 = .ok (.invokevirtual 13, 3) := by decide +kernel
theorem dL_229 : decode cL 229 = .ok (.aload_n 2, 1) := by decide +kernel
theorem dL_230 : decode cL 230 = .ok (.aload_n 0, 1) := by decide +kernel
theorem dL_231 : decode cL 231 = .ok (.iload_n 3, 1) := by decide +kernel
theorem dL_232 : decode cL 232 = .ok (.iconst 1, 1) := by decide +kernel
theorem dL_233 : decode cL 233 = .ok (.iadd, 1) := by decide +kernel
theorem dL_234 : decode cL 234 = .ok (.iaload, 1) := by decide +kernel
theorem dL_235 : decode cL 235 = .ok (.invokevirtual 17, 3) := by decide +kernel
theorem dL_238 : decode cL 238 = .ok (.if_icmp .eq 941, 3) := by decide +kernel
theorem dL_243 : decode cL 243 = .ok (.aload_n 1, 1) := by decide +kernel
theorem dL_244 : decode cL 244 = .ok (.invokevirtual 18, 3) := by decide +kernel
theorem dL_247 : decode cL 247 = .ok (.aload_n 2, 1) := by decide +kernel
theorem dL_248 : decode cL 248 = .ok (.invokevirtual 22, 3) := by decide +kernel
theorem dL_251 : decode cL 251 = .ok (.if_icmp .eq 928, 3) := by decide +kernel
theorem dL_256 : decode cL 256 = .ok (.aload_n 1, 1) := by decide +kernel
theorem dL_257 : decode cL 257 = .ok (.invokevirtual 23, 3) := by decide +kernel
theorem dL_260 : decode cL 260 = .ok (.aload_n 2, 1) := by decide +kernel
theorem dL_261 : decode cL 261 = .ok (.invokevirtual 26, 3) := by decide +kernel
theorem dL_264 : decode cL 264 = .ok (.if_icmp .eq 915, 3) := by decide +kernel
theorem dL_269 : decode cL 269 = .ok (.aload_n 1, 1) := by decide +kernel
theorem dL_270 : decode cL 270 = .ok (.aload_n 0, 1) := by decide +kernel
theorem dL_271 : decode cL 271 = .ok (.iload_n 3, 1) := by decide +kernel
theorem dL_272 : decode cL 272 = .ok (.iconst 1, 1) := by decide +kernel
theorem dL_273 : decode cL 273 = .ok (.iadd, 1) := by decide +kernel
theorem dL_274 : decode cL 274 = .ok (.iaload, 1) := by decide +kernel
theorem dL_275 : decode cL 275 = .ok (.invokevirtual 27, 3) := by decide +kernel
theorem dL_278 : decode cL 278 = .ok (.aload_n 2, 1) := by decide +kernel
theorem dL_279 : decode cL 279 = .ok (.aload_n 0, 1) := by decide +kernel
theorem dL_280 : decode cL 280 = .ok (.iload_n 3, 1) := by decide +kernel
theorem dL_281 : decode cL 281 = .ok (.iconst 1, 1) := by decide +kernel
theorem dL_282 : decode cL 282 = .ok (.iadd, 1) := by decide +kernel
theorem dL_283 : decode cL 283 = .ok (.iaload, 1) := by decide +kernel
theorem dL_284 : decode cL 284 = .ok (.invokevirtual 30, 3) := by decide +kernel
theorem dL_287 : decode cL 287 = .ok (.if_icmp .eq 892, 3) := by decide +kernel
theorem dL_292 : decode cL 292 = .ok (.aload_n 1, 1) := by decide +kernel
theorem dL_293 : decode cL 293 = .ok (.aload_n 0, 1) := by decide +kernel
theorem dL_294 : decode cL 294 = .ok (.iload_n 3, 1) := by decide +kernel
theorem dL_295 : decode cL 295 = .ok (.iconst 1, 1) := by decide +kernel
theorem dL_296 : decode cL 296 = .ok (.iadd, 1) := by decide +kernel
theorem dL_297 : decode cL 297 = .ok (.iaload, 1) := by decide +kernel
theorem dL_298 : decode cL 298 = .ok (.aload_n 0, 1) := by decide +kernel
theorem dL_299 : decode cL 299 = .ok (.iload_n 3, 1) := by decide +kernel
theorem dL_300 : decode cL 300 = .ok (.iconst 2, 1) := by decide +kernel
theorem dL_301 : decode cL 301 = .ok (.iadd, 1) := by decide +kernel
theorem dL_302 : decode cL 302 = .ok (.iaload, 1) := by decide +kernel
theorem dL_303 : decode cL 303 = .ok (.invokevirtual 31, 3) := by decide +kernel
theorem dL_306 : decode cL 306 = .ok (.aload_n 2, 1) := by decide +kernel
theorem dL_307 : decode cL 307 = .ok (.aload_n 0, 1) := by decide +kernel
theorem dL_308 : decode cL 308 = .ok (.iload_n 3, 1) := by decide +kernel
theorem dL_309 : decode cL 309 = .ok (.iconst 1, 1) := by decide +kernel
theorem dL_310 : decode cL 310 = .ok (.iadd, 1) := by decide +kernel
theorem dL_311 : decode cL 311 = .ok (.iaload, 1) := by decide +kernel
theorem dL_312 : decode cL 312 = .ok (.aload_n 0, 1) := by decide +kernel
theorem dL_313 : decode cL 313 = .ok (.iload_n 3, 1) := by decide +kernel
theorem dL_314 : decode cL 314 = .ok (.iconst 2, 1) := by decide +kernel
theorem dL_315 : decode cL 315 = .ok (.iadd, 1) := by decide +kernel
theorem dL_316 : decode cL 316 = .ok (.iaload, 1) := by decide +kernel
theorem dL_317 : decode cL 317 = .ok (.invokevirtual 35, 3) := by decide +kernel
theorem dL_320 : decode cL 320 = .ok (.if_icmp .eq 859, 3) := by decide +kernel
theorem dL_325 : decode cL 325 = .ok (.aload_n 1, 1) := by decide +kernel
theorem dL_326 : decode cL 326 = .ok (.aload_n 0, 1) := by decide +kernel
theorem dL_327 : decode cL 327 = .ok (.iload_n 3, 1) := by decide +kernel
theorem dL_328 : decode cL 328 = .ok (.iconst 1, 1) := by decide +kernel
theorem dL_329 : decode cL 329 = .ok (.iadd, 1) := by decide +kernel
theorem dL_330 : decode cL 330 = .ok (.iaload, 1) := by decide +kernel
theorem dL_331 : decode cL 331 = .ok (.aload_n 0, 1) := by decide +kernel
theorem dL_332 : decode cL 332 = .ok (.iload_n 3, 1) := by decide +kernel
theorem dL_333 : decode cL 333 = .ok (.iconst 2, 1) := by decide +kernel
theorem dL_334 : decode cL 334 = .ok (.iadd, 1) := by decide +kernel
theorem dL_335 : decode cL 335 = .ok (.iaload, 1) := by decide +kernel
theorem dL_336 : decode cL 336 = .ok (.invokevirtual 36, 3) := by decide +kernel
theorem dL_339 : decode cL 339 = .ok (.aload_n 2, 1) := by decide +kernel
theorem dL_340 : decode cL 340 = .ok (.aload_n 0, 1) := by decide +kernel
theorem dL_341 : decode cL 341 = .ok (.iload_n 3, 1) := by decide +kernel
theorem dL_342 : decode cL 342 = .ok (.iconst 1, 1) := by decide +kernel
theorem dL_343 : decode cL 343 = .ok (.iadd, 1) := by decide +kernel
theorem dL_344 : decode cL 344 = .ok (.iaload, 1) := by decide +kernel
theorem dL_345 : decode cL 345 = .ok (.aload_n 0, 1) := by decide +kernel
theorem dL_346 : decode cL 346 = .ok (.iload_n 3, 1) := by decide +kernel
theorem dL_347 : decode cL 347 = .ok (.iconst 2, 1) := by decide +kernel
theorem dL_348 : decode cL 348 = .ok (.iadd, 1) := by decide +kernel
theorem dL_349 : decode cL 349 = .ok (.iaload, 1) := by decide +kernel
theorem dL_350 : decode cL 350 = .ok (.invokevirtual 39, 3) := by decide +kernel
theorem dL_353 : decode cL 353 = .ok (.if_icmp .eq 826, 3) := by decide +kernel
theorem dL_358 : decode cL 358 = .ok (.aload_n 1, 1) := by decide +kernel
theorem dL_359 : decode cL 359 = .ok (.aload_n 0, 1) := by decide +kernel
theorem dL_360 : decode cL 360 = .ok (.iload_n 3, 1) := by decide +kernel
theorem dL_361 : decode cL 361 = .ok (.iconst 1, 1) := by decide +kernel
theorem dL_362 : decode cL 362 = .ok (.iadd, 1) := by decide +kernel
theorem dL_363 : decode cL 363 = .ok (.iaload, 1) := by decide +kernel
theorem dL_364 : decode cL 364 = .ok (.invokevirtual 40, 3) := by decide +kernel
theorem dL_367 : decode cL 367 = .ok (.aload_n 2, 1) := by decide +kernel
theorem dL_368 : decode cL 368 = .ok (.aload_n 0, 1) := by decide +kernel
theorem dL_369 : decode cL 369 = .ok (.iload_n 3, 1) := by decide +kernel
theorem dL_370 : decode cL 370 = .ok (.iconst 1, 1) := by decide +kernel
theorem dL_371 : decode cL 371 = .ok (.iadd, 1) := by decide +kernel
theorem dL_372 : decode cL 372 = .ok (.iaload, 1) := by decide +kernel
theorem dL_373 : decode cL 373 = .ok (.invokevirtual 43, 3) := by decide +kernel
theorem dL_376 : decode cL 376 = .ok (.if_icmp .eq 803, 3) := by decide +kernel
theorem dL_381 : decode cL 381 = .ok (.aload_n 1, 1) := by decide +kernel
theorem dL_382 : decode cL 382 = .ok (.aload_n 0, 1) := by decide +kernel
theorem dL_383 : decode cL 383 = .ok (.iload_n 3, 1) := by decide +kernel
theorem dL_384 : decode cL 384 = .ok (.iconst 1, 1) := by decide +kernel
theorem dL_385 : decode cL 385 = .ok (.iadd, 1) := by decide +kernel
theorem dL_386 : decode cL 386 = .ok (.iaload, 1) := by decide +kernel
theorem dL_387 : decode cL 387 = .ok (.aload_n 0, 1) := by decide +kernel
theorem dL_388 : decode cL 388 = .ok (.iload_n 3, 1) := by decide +kernel
theorem dL_389 : decode cL 389 = .ok (.iconst 2, 1) := by decide +kernel
theorem dL_390 : decode cL 390 = .ok (.iadd, 1) := by decide +kernel
theorem dL_391 : decode cL 391 = .ok (.iaload, 1) := by decide +kernel
theorem dL_392 : decode cL 392 = .ok (.invokevirtual 44, 3) := by decide +kernel
theorem dL_395 : decode cL 395 = .ok (.aload_n 2, 1) := by decide +kernel
theorem dL_396 : decode cL 396 = .ok (.aload_n 0, 1) := by decide +kernel
theorem dL_397 : decode cL 397 = .ok (.iload_n 3, 1) := by decide +kernel
theorem dL_398 : decode cL 398 = .ok (.iconst 1, 1) := by decide +kernel
theorem dL_399 : decode cL 399 = .ok (.iadd, 1) := by decide +kernel
theorem dL_400 : decode cL 400 = .ok (.iaload, 1) := by decide +kernel
theorem dL_401 : decode cL 401 = .ok (.aload_n 0, 1) := by decide +kernel
theorem dL_402 : decode cL 402 = .ok (.iload_n 3, 1) := by decide +kernel
theorem dL_403 : decode cL 403 = .ok (.iconst 2, 1) := by decide +kernel
theorem dL_404 : decode cL 404 = .ok (.iadd, 1) := by decide +kernel
theorem dL_405 : decode cL 405 = .ok (.iaload, 1) := by decide +kernel
theorem dL_406 : decode cL 406 = .ok (.invokevirtual 47, 3) := by decide +kernel
theorem dL_409 : decode cL 409 = .ok (.if_icmp .eq 770, 3) := by decide +kernel
theorem dL_414 : decode cL 414 = .ok (.aload_n 1, 1) := by decide +kernel
theorem dL_415 : decode cL 415 = .ok (.aload_n 0, 1) := by decide +kernel
theorem dL_416 : decode cL 416 = .ok (.iload_n 3, 1) := by decide +kernel
theorem dL_417 : decode cL 417 = .ok (.iconst 1, 1) := by decide +kernel
theorem dL_418 : decode cL 418 = .ok (.iadd, 1) := by decide +kernel
theorem dL_419 : decode cL 419 = .ok (.iaload, 1) := by decide +kernel
theorem dL_420 : decode cL 420 = .ok (.invokevirtual 48, 3) := by decide +kernel
theorem dL_423 : decode cL 423 = .ok (.aload_n 2, 1) := by decide +kernel
theorem dL_424 : decode cL 424 = .ok (.aload_n 0, 1) := by decide +kernel
theorem dL_425 : decode cL 425 = .ok (.iload_n 3, 1) := by decide +kernel
theorem dL_426 : decode cL 426 = .ok (.iconst 1, 1) := by decide +kernel
theorem dL_427 : decode cL 427 = .ok (.iadd, 1) := by decide +kernel
theorem dL_428 : decode cL 428 = .ok (.iaload, 1) := by decide +kernel
theorem dL_429 : decode cL 429 = .ok (.invokevirtual 51, 3) := by decide +kernel
theorem dL_432 : decode cL 432 = .ok (.if_icmp .eq 747, 3) := by decide +kernel
theorem dL_437 : decode cL 437 = .ok (.aload_n 1, 1) := by decide +kernel
theorem dL_438 : decode cL 438 = .ok (.aload_n 0, 1) := by decide +kernel
theorem dL_439 : decode cL 439 = .ok (.iload_n 3, 1) := by decide +kernel
theorem dL_440 : decode cL 440 = .ok (.iconst 1, 1) := by decide +kernel
theorem dL_441 : decode cL 441 = .ok (.iadd, 1) := by decide +kernel
theorem dL_442 : decode cL 442 = .ok (.iaload, 1) := by decide +kernel
theorem dL_443 : decode cL 443 = .ok (.invokevirtual 52, 3) := by decide +kernel
theorem dL_446 : decode cL 446 = .ok (.aload_n 2, 1) := by decide +kernel
theorem dL_447 : decode cL 447 = .ok (.aload_n 0, 1) := by decide +kernel
theorem dL_448 : decode cL 448 = .ok (.iload_n 3, 1) := by decide +kernel
theorem dL_449 : decode cL 449 = .ok (.iconst 1, 1) := by decide +kernel
theorem dL_450 : decode cL 450 = .ok (.iadd, 1) := by decide +kernel
theorem dL_451 : decode cL 451 = .ok (.iaload, 1) := by decide +kernel
theorem dL_452 : decode cL 452 = .ok (.invokevirtual 55, 3) := by decide +kernel
theorem dL_455 : decode cL 455 = .ok (.if_icmp .eq 724, 3) := by decide +kernel
theorem dL_460 : decode cL 460 = .ok (.aload_n 1, 1) := by decide +kernel
theorem dL_461 : decode cL 461 = .ok (.aload_n 0, 1) := by decide +kernel
theorem dL_462 : decode cL 462 = .ok (.iload_n 3, 1) := by decide +kernel
theorem dL_463 : decode cL 463 = .ok (.iconst 1, 1) := by decide +kernel
theorem dL_464 : decode cL 464 = .ok (.iadd, 1) := by decide +kernel
theorem dL_465 : decode cL 465 = .ok (.iaload, 1) := by decide +kernel
theorem dL_466 : decode cL 466 = .ok (.invokevirtual 56, 3) := by decide +kernel
theorem dL_469 : decode cL 469 = .ok (.aload_n 2, 1) := by decide +kernel
theorem dL_470 : decode cL 470 = .ok (.aload_n 0, 1) := by decide +kernel
theorem dL_471 : decode cL 471 = .ok (.iload_n 3, 1) := by decide +kernel
theorem dL_472 : decode cL 472 = .ok (.iconst 1, 1) := by decide +kernel
theorem dL_473 : decode cL 473 = .ok (.iadd, 1) := by decide +kernel
theorem dL_474 : decode cL 474 = .ok (.iaload, 1) := by decide +kernel
theorem dL_475 : decode cL 475 = .ok (.invokevirtual 59, 3) := by decide +kernel
theorem dL_478 : decode cL 478 = .ok (.if_icmp .eq 701, 3) := by decide +kernel
theorem dL_483 : decode cL 483 = .ok (.aload_n 1, 1) := by decide +kernel
theorem dL_484 : decode cL 484 = .ok (.aload_n 0, 1) := by decide +kernel
theorem dL_485 : decode cL 485 = .ok (.iload_n 3, 1) := by decide +kernel
theorem dL_486 : decode cL 486 = .ok (.iconst 1, 1) := by decide +kernel
theorem dL_487 : decode cL 487 = .ok (.iadd, 1) := by decide +kernel
theorem dL_488 : decode cL 488 = .ok (.iaload, 1) := by decide +kernel
theorem dL_489 : decode cL 489 = .ok (.aload_n 0, 1) := by decide +kernel
theorem dL_490 : decode cL 490 = .ok (.iload_n 3, 1) := by decide +kernel
theorem dL_491 : decode cL 491 = .ok (.iconst 2, 1) := by decide +kernel
theorem dL_492 : decode cL 492 = .ok (.iadd, 1) := by decide +kernel
theorem dL_493 : decode cL 493 = .ok (.iaload, 1) := by decide +kernel
theorem dL_494 : decode cL 494 = .ok (.invokevirtual 60, 3) := by decide +kernel
theorem dL_497 : decode cL 497 = .ok (.aload_n 2, 1) := by decide +kernel
theorem dL_498 : decode cL 498 = .ok (.aload_n 0, 1) := by decide +kernel
theorem dL_499 : decode cL 499 = .ok (.iload_n 3, 1) := by decide +kernel
theorem dL_500 : decode cL 500 = .ok (.iconst 1, 1) := by decide +kernel
theorem dL_501 : decode cL 501 = .ok (.iadd, 1) := by decide +kernel
theorem dL_502 : decode cL 502 = .ok (.iaload, 1) := by decide +kernel
theorem dL_503 : decode cL 503 = .ok (.aload_n 0, 1) := by decide +kernel
theorem dL_504 : decode cL 504 = .ok (.iload_n 3, 1) := by decide +kernel
theorem dL_505 : decode cL 505 = .ok (.iconst 2, 1) := by decide +kernel
theorem dL_506 : decode cL 506 = .ok (.iadd, 1) := by decide +kernel
theorem dL_507 : decode cL 507 = .ok (.iaload, 1) := by decide +kernel
theorem dL_508 : decode cL 508 = .ok (.invokevirtual 63, 3) := by decide +kernel
theorem dL_511 : decode cL 511 = .ok (.if_icmp .eq 668, 3) := by decide +kernel
theorem dL_516 : decode cL 516 = .ok (.aload_n 1, 1) := by decide +kernel
theorem dL_517 : decode cL 517 = .ok (.aload_n 0, 1) := by decide +kernel
theorem dL_518 : decode cL 518 = .ok (.iload_n 3, 1) := by decide +kernel
theorem dL_519 : decode cL 519 = .ok (.iconst 1, 1) := by decide +kernel
theorem dL_520 : decode cL 520 = .ok (.iadd, 1) := by decide +kernel
theorem dL_521 : decode cL 521 = .ok (.iaload, 1) := by decide +kernel
theorem dL_522 : decode cL 522 = .ok (.aload_n 0, 1) := by decide +kernel
theorem dL_523 : decode cL 523 = .ok (.iload_n 3, 1) := by decide +kernel
theorem dL_524 : decode cL 524 = .ok (.iconst 2, 1) := by decide +kernel
theorem dL_525 : decode cL 525 = .ok (.iadd, 1) := by decide +kernel
theorem dL_526 : decode cL 526 = .ok (.iaload, 1) := by decide +kernel
theorem dL_527 : decode cL 527 = .ok (.invokevirtual 64, 3) := by decide +kernel
theorem dL_530 : decode cL 530 = .ok (.aload_n 2, 1) := by decide +kernel
theorem dL_531 : decode cL 531 = .ok (.aload_n 0, 1) := by decide +kernel
theorem dL_532 : decode cL 532 = .ok (.iload_n 3, 1) := by decide +kernel
theorem dL_533 : decode cL 533 = .ok (.iconst 1, 1) := by decide +kernel
theorem dL_534 : decode cL 534 = .ok (.iadd, 1) := by decide +kernel
theorem dL_535 : decode cL 535 = .ok (.iaload, 1) := by decide +kernel
theorem dL_536 : decode cL 536 = .ok (.aload_n 0, 1) := by decide +kernel
theorem dL_537 : decode cL 537 = .ok (.iload_n 3, 1) := by decide +kernel
theorem dL_538 : decode cL 538 = .ok (.iconst 2, 1) := by decide +kernel
theorem dL_539 : decode cL 539 = .ok (.iadd, 1) := by decide +kernel
theorem dL_540 : decode cL 540 = .ok (.iaload, 1) := by decide +kernel
theorem dL_541 : decode cL 541 = .ok (.invokevirtual 67, 3) := by decide +kernel
theorem dL_544 : decode cL 544 = .ok (.if_icmp .eq 635, 3) := by decide +kernel
theorem dL_549 : decode cL 549 = .ok (.aload_n 1, 1) := by decide +kernel
theorem dL_550 : decode cL 550 = .ok (.aload_n 0, 1) := by decide +kernel
theorem dL_551 : decode cL 551 = .ok (.iload_n 3, 1) := by decide +kernel
theorem dL_552 : decode cL 552 = .ok (.iconst 1, 1) := by decide +kernel
theorem dL_553 : decode cL 553 = .ok (.iadd, 1) := by decide +kernel
theorem dL_554 : decode cL 554 = .ok (.iaload, 1) := by decide +kernel
theorem dL_555 : decode cL 555 = .ok (.invokevirtual 68, 3) := by decide +kernel
theorem dL_558 : decode cL 558 = .ok (.aload_n 2, 1) := by decide +kernel
theorem dL_559 : decode cL 559 = .ok (.aload_n 0, 1) := by decide +kernel
theorem dL_560 : decode cL 560 = .ok (.iload_n 3, 1) := by decide +kernel
theorem dL_561 : decode cL 561 = .ok (.iconst 1, 1) := by decide +kernel
theorem dL_562 : decode cL 562 = .ok (.iadd, 1) := by decide +kernel
theorem dL_563 : decode cL 563 = .ok (.iaload, 1) := by decide +kernel
theorem dL_564 : decode cL 564 = .ok (.invokevirtual 71, 3) := by decide +kernel
theorem dL_567 : decode cL 567 = .ok (.if_icmp .eq 612, 3) := by decide +kernel
theorem dL_572 : decode cL 572 = .ok (.aload_n 1, 1) := by decide +kernel
theorem dL_573 : decode cL 573 = .ok (.aload_n 0, 1) := by decide +kernel
theorem dL_574 : decode cL 574 = .ok (.iload_n 3, 1) := by decide +kernel
theorem dL_575 : decode cL 575 = .ok (.iconst 1, 1) := by decide +kernel
theorem dL_576 : decode cL 576 = .ok (.iadd, 1) := by decide +kernel
theorem dL_577 : decode cL 577 = .ok (.iaload, 1) := by decide +kernel
theorem dL_578 : decode cL 578 = .ok (.invokevirtual 72, 3) := by decide +kernel
theorem dL_581 : decode cL 581 = .ok (.aload_n 2, 1) := by decide +kernel
theorem dL_582 : decode cL 582 = .ok (.aload_n 0, 1) := by decide +kernel
theorem dL_583 : decode cL 583 = .ok (.iload_n 3, 1) := by decide +kernel
theorem dL_584 : decode cL 584 = .ok (.iconst 1, 1) := by decide +kernel
theorem dL_585 : decode cL 585 = .ok (.iadd, 1) := by decide +kernel
theorem dL_586 : decode cL 586 = .ok (.iaload, 1) := by decide +kernel
theorem dL_587 : decode cL 587 = .ok (.invokevirtual 75, 3) := by decide +kernel
theorem dL_590 : decode cL 590 = .ok (.if_icmp .eq 589, 3) := by decide +kernel
theorem dL_595 : decode cL 595 = .ok (.aload_n 1, 1) := by decide +kernel
theorem dL_596 : decode cL 596 = .ok (.aload_n 0, 1) := by decide +kernel
theorem dL_597 : decode cL 597 = .ok (.iload_n 3, 1) := by decide +kernel
theorem dL_598 : decode cL 598 = .ok (.iconst 1, 1) := by decide +kernel
theorem dL_599 : decode cL 599 = .ok (.iadd, 1) := by decide +kernel
theorem dL_600 : decode cL 600 = .ok (.iaload, 1) := by decide +kernel
theorem dL_601 : decode cL 601 = .ok (.invokevirtual 76, 3) := by decide +kernel
theorem dL_604 : decode cL 604 = .ok (.aload_n 2, 1) := by decide +kernel
theorem dL_605 : decode cL 605 = .ok (.aload_n 0, 1) := by decide +kernel
theorem dL_606 : decode cL 606 = .ok (.iload_n 3, 1) := by decide +kernel
theorem dL_607 : decode cL 607 = .ok (.iconst 1, 1) := by decide +kernel
theorem dL_608 : decode cL 608 = .ok (.iadd, 1) := by decide +kernel
theorem dL_609 : decode cL 609 = .ok (.iaload, 1) := by decide +kernel
theorem dL_610 : decode cL 610 = .ok (.invokevirtual 79, 3) := by decide +kernel
theorem dL_613 : decode cL 613 = .ok (.if_icmp .eq 566, 3) := by decide +kernel
theorem dL_618 : decode cL 618 = .ok (.aload_n 1, 1) := by decide +kernel
theorem dL_619 : decode cL 619 = .ok (.invokevirtual 80, 3) := by decide +kernel
theorem dL_622 : decode cL 622 = .ok (.aload_n 2, 1) := by decide +kernel
theorem dL_623 : decode cL 623 = .ok (.invokevirtual 83, 3) := by decide +kernel
theorem dL_626 : decode cL 626 = .ok (.if_icmp .eq 553, 3) := by decide +kernel
theorem dL_631 : decode cL 631 = .ok (.aload_n 1, 1) := by decide +kernel
theorem dL_632 : decode cL 632 = .ok (.aload_n 0, 1) := by decide +kernel
theorem dL_633 : decode cL 633 = .ok (.iload_n 3, 1) := by decide +kernel
theorem dL_634 : decode cL 634 = .ok (.iconst 1, 1) := by decide +kernel
theorem dL_635 : decode cL 635 = .ok (.iadd, 1) := by decide +kernel
theorem dL_636 : decode cL 636 = .ok (.iaload, 1) := by decide +kernel
theorem dL_637 : decode cL 637 = .ok (.invokevirtual 84, 3) := by decide +kernel
theorem dL_640 : decode cL 640 = .ok (.aload_n 2, 1) := by decide +kernel
theorem dL_641 : decode cL 641 = .ok (.aload_n 0, 1) := by decide +kernel
theorem dL_642 : decode cL 642 = .ok (.iload_n 3, 1) := by decide +kernel
theorem dL_643 : decode cL 643 = .ok (.iconst 1, 1) := by decide +kernel
theorem dL_644 : decode cL 644 = .ok (.iadd, 1) := by decide +kernel
theorem dL_645 : decode cL 645 = .ok (.iaload, 1) := by decide +kernel
theorem dL_646 : decode cL 646 = .ok (.invokevirtual 87, 3) := by decide +kernel
theorem dL_649 : decode cL 649 = .ok (.if_icmp .eq 530, 3) := by decide +kernel
theorem dL_654 : decode cL 654 = .ok (.aload_n 1, 1) := by decide +kernel
theorem dL_655 : decode cL 655 = .ok (.aload_n 0, 1) := by decide +kernel
theorem dL_656 : decode cL 656 = .ok (.iload_n 3, 1) := by decide +kernel
theorem dL_657 : decode cL 657 = .ok (.iconst 1, 1) := by decide +kernel
theorem dL_658 : decode cL 658 = .ok (.iadd, 1) := by decide +kernel
theorem dL_659 : decode cL 659 = .ok (.iaload, 1) := by decide +kernel
theorem dL_660 : decode cL 660 = .ok (.invokevirtual 88, 3) := by decide +kernel
theorem dL_663 : decode cL 663 = .ok (.aload_n 2, 1) := by decide +kernel
theorem dL_664 : decode cL 664 = .ok (.aload_n 0, 1) := by decide +kernel
theorem dL_665 : decode cL 665 = .ok (.iload_n 3, 1) := by decide +kernel
theorem dL_666 : decode cL 666 = .ok (.iconst 1, 1) := by decide +kernel
theorem dL_667 : decode cL 667 = .ok (.iadd, 1) := by decide +kernel
theorem dL_668 : decode cL 668 = .ok (.iaload, 1) := by decide +kernel
theorem dL_669 : decode cL 669 = .ok (.invokevirtual 91, 3) := by decide +kernel
theorem dL_672 : decode cL 672 = .ok (.if_icmp .eq 507, 3) := by decide +kernel
theorem dL_677 : decode cL 677 = .ok (.aload_n 1, 1) := by decide +kernel
theorem dL_678 : decode cL 678 = .ok (.aload_n 0, 1) := by decide +kernel
theorem dL_679 : decode cL 679 = .ok (.iload_n 3, 1) := by decide +kernel
theorem dL_680 : decode cL 680 = .ok (.iconst 1, 1) := by decide +kernel
theorem dL_681 : decode cL 681 = .ok (.iadd, 1) := by decide +kernel
theorem dL_682 : decode cL 682 = .ok (.iaload, 1) := by decide +kernel
theorem dL_683 : decode cL 683 = .ok (.invokevirtual 92, 3) := by decide +kernel
theorem dL_686 : decode cL 686 = .ok (.aload_n 2, 1) := by decide +kernel
theorem dL_687 : decode cL 687 = .ok (.aload_n 0, 1) := by decide +kernel
theorem dL_688 : decode cL 688 = .ok (.iload_n 3, 1) := by decide +kernel
theorem dL_689 : decode cL 689 = .ok (.iconst 1, 1) := by decide +kernel
theorem dL_690 : decode cL 690 = .ok (.iadd, 1) := by decide +kernel
theorem dL_691 : decode cL 691 = .ok (.iaload, 1) := by decide +kernel
theorem dL_692 : decode cL 692 = .ok (.invokevirtual 95, 3) := by decide +kernel
theorem dL_695 : decode cL 695 = .ok (.if_icmp .eq 484, 3) := by decide +kernel
theorem dL_700 : decode cL 700 = .ok (.aload_n 1, 1) := by decide +kernel
theorem dL_701 : decode cL 701 = .ok (.invokevirtual 96, 3) := by decide +kernel
theorem dL_704 : decode cL 704 = .ok (.aload_n 2, 1) := by decide +kernel
theorem dL_705 : decode cL 705 = .ok (.invokevirtual 99, 3) := by decide +kernel
theorem dL_708 : decode cL 708 = .ok (.if_icmp .eq 471, 3) := by decide +kernel
theorem dL_713 : decode cL 713 = .ok (.aload_n 1, 1) := by decide +kernel
theorem dL_714 : decode cL 714 = .ok (.aload_n 0, 1) := by decide +kernel
theorem dL_715 : decode cL 715 = .ok (.iload_n 3, 1) := by decide +kernel
theorem dL_716 : decode cL 716 = .ok (.iconst 1, 1) := by decide +kernel
theorem dL_717 : decode cL 717 = .ok (.iadd, 1) := by decide +kernel
theorem dL_718 : decode cL 718 = .ok (.iaload, 1) := by decide +kernel
theorem dL_719 : decode cL 719 = .ok (.invokevirtual 100, 3) := by decide +kernel
theorem dL_722 : decode cL 722 = .ok (.aload_n 2, 1) := by decide +kernel
theorem dL_723 : decode cL 723 = .ok (.aload_n 0, 1) := by decide +kernel
theorem dL_724 : decode cL 724 = .ok (.iload_n 3, 1) := by decide +kernel
theorem dL_725 : decode cL 725 = .ok (.iconst 1, 1) := by decide +kernel
theorem dL_726 : decode cL 726 = .ok (.iadd, 1) := by decide +kernel
theorem dL_727 : decode cL 727 = .ok (.iaload, 1) := by decide +kernel
theorem dL_728 : decode cL 728 = .ok (.invokevirtual 103, 3) := by decide +kernel
theorem dL_731 : decode cL 731 = .ok (.if_icmp .eq 448, 3) := by decide +kernel
theorem dL_736 : decode cL 736 = .ok (.aload_n 1, 1) := by decide +kernel
theorem dL_737 : decode cL 737 = .ok (.aload_n 0, 1) := by decide +kernel
theorem dL_738 : decode cL 738 = .ok (.iload_n 3, 1) := by decide +kernel
theorem dL_739 : decode cL 739 = .ok (.iconst 1, 1) := by decide +kernel
theorem dL_740 : decode cL 740 = .ok (.iadd, 1) := by decide +kernel
theorem dL_741 : decode cL 741 = .ok (.iaload, 1) := by decide +kernel
theorem dL_742 : decode cL 742 = .ok (.invokevirtual 104, 3) := by decide +kernel
theorem dL_745 : decode cL 745 = .ok (.aload_n 2, 1) := by decide +kernel
theorem dL_746 : decode cL 746 = .ok (.aload_n 0, 1) := by decide +kernel
theorem dL_747 : decode cL 747 = .ok (.iload_n 3, 1) := by decide +kernel
theorem dL_748 : decode cL 748 = .ok (.iconst 1, 1) := by decide +kernel
theorem dL_749 : decode cL 749 = .ok (.iadd, 1) := by decide +kernel
theorem dL_750 : decode cL 750 = .ok (.iaload, 1) := by decide +kernel
theorem dL_751 : decode cL 751 = .ok (.invokevirtual 107, 3) := by decide +kernel
theorem dL_754 : decode cL 754 = .ok (.if_icmp .eq 425, 3) := by decide +kernel
theorem dL_759 : decode cL 759 = .ok (.aload_n 1, 1) := by decide +kernel
theorem dL_760 : decode cL 760 = .ok (.aload_n 0, 1) := by decide +kernel
theorem dL_761 : decode cL 761 = .ok (.iload_n 3, 1) := by decide +kernel
theorem dL_762 : decode cL 762 = .ok (.iconst 1, 1) := by decide +kernel
theorem dL_763 : decode cL 763 = .ok (.iadd, 1) := by decide +kernel
theorem dL_764 : decode cL 764 = .ok (.iaload, 1) := by decide +kernel
theorem dL_765 : decode cL 765 = .ok (.invokevirtual 108, 3) := by decide +kernel
theorem dL_768 : decode cL 768 = .ok (.aload_n 2, 1) := by decide +kernel
theorem dL_769 : decode cL 769 = .ok (.aload_n 0, 1) := by decide +kernel
theorem dL_770 : decode cL 770 = .ok (.iload_n 3, 1) := by decide +kernel
theorem dL_771 : decode cL 771 = .ok (.iconst 1, 1) := by decide +kernel
theorem dL_772 : decode cL 772 = .ok (.iadd, 1) := by decide +kernel
theorem dL_773 : decode cL 773 = .ok (.iaload, 1) := by decide +kernel
theorem dL_774 : decode cL 774 = .ok (.invokevirtual 111, 3) := by decide +kernel
theorem dL_777 : decode cL 777 = .ok (.if_icmp .eq 402, 3) := by decide +kernel
theorem dL_782 : decode cL 782 = .ok (.aload_n 1, 1) := by decide +kernel
theorem dL_783 : decode cL 783 = .ok (.aload_n 0, 1) := by decide +kernel
theorem dL_784 : decode cL 784 = .ok (.iload_n 3, 1) := by decide +kernel
theorem dL_785 : decode cL 785 = .ok (.iconst 1, 1) := by decide +kernel
theorem dL_786 : decode cL 786 = .ok (.iadd, 1) := by decide +kernel
theorem dL_787 : decode cL 787 = .ok (.iaload, 1) := by decide +kernel
theorem dL_788 : decode cL 788 = .ok (.invokevirtual 112, 3) := by decide +kernel
theorem dL_791 : decode cL 791 = .ok (.aload_n 2, 1) := by decide +kernel
theorem dL_792 : decode cL 792 = .ok (.aload_n 0, 1) := by decide +kernel
theorem dL_793 : decode cL 793 = .ok (.iload_n 3, 1) := by decide +kernel
theorem dL_794 : decode cL 794 = .ok (.iconst 1, 1) := by decide +kernel
theorem dL_795 : decode cL 795 = .ok (.iadd, 1) := by decide +kernel
theorem dL_796 : decode cL 796 = .ok (.iaload, 1) := by decide +kernel
theorem dL_797 : decode cL 797 = .ok (.invokevirtual 115, 3) := by decide +kernel
theorem dL_800 : decode cL 800 = .ok (.if_icmp .eq 379, 3) := by decide +kernel
theorem dL_805 : decode cL 805 = .ok (.aload_n 1, 1) := by decide +kernel
theorem dL_806 : decode cL 806 = .ok (.invokevirtual 116, 3) := by decide +kernel
theorem dL_809 : decode cL 809 = .ok (.aload_n 2, 1) := by decide +kernel
theorem dL_810 : decode cL 810 = .ok (.invokevirtual 119, 3) := by decide +kernel
theorem dL_813 : decode cL 813 = .ok (.if_icmp .eq 366, 3) := by decide +kernel
theorem dL_818 : decode cL 818 = .ok (.aload_n 1, 1) := by decide +kernel
theorem dL_819 : decode cL 819 = .ok (.aload_n 0, 1) := by decide +kernel
theorem dL_820 : decode cL 820 = .ok (.iload_n 3, 1) := by decide +kernel
theorem dL_821 : decode cL 821 = .ok (.iconst 1, 1) := by decide +kernel
theorem dL_822 : decode cL 822 = .ok (.iadd, 1) := by decide +kernel
theorem dL_823 : decode cL 823 = .ok (.iaload, 1) := by decide +kernel
theorem dL_824 : decode cL 824 = .ok (.aload_n 0, 1) := by decide +kernel
theorem dL_825 : decode cL 825 = .ok (.iload_n 3, 1) := by decide +kernel
theorem dL_826 : decode cL 826 = .ok (.iconst 2, 1) := by decide +kernel
theorem dL_827 : decode cL 827 = .ok (.iadd, 1) := by decide +kernel
theorem dL_828 : decode cL 828 = .ok (.iaload, 1) := by decide +kernel
theorem dL_829 : decode cL 829 = .ok (.invokevirtual 120, 3) := by decide +kernel
theorem dL_832 : decode cL 832 = .ok (.aload_n 2, 1) := by decide +kernel
theorem dL_833 : decode cL 833 = .ok (.aload_n 0, 1) := by decide +kernel
theorem dL_834 : decode cL 834 = .ok (.iload_n 3, 1) := by decide +kernel
theorem dL_835 : decode cL 835 = .ok (.iconst 1, 1) := by decide +kernel
theorem dL_836 : decode cL 836 = .ok (.iadd, 1) := by decide +kernel
theorem dL_837 : decode cL 837 = .ok (.iaload, 1) := by decide +kernel
theorem dL_838 : decode cL 838 = .ok (.aload_n 0, 1) := by decide +kernel
theorem dL_839 : decode cL 839 = .ok (.iload_n 3, 1) := by decide +kernel
theorem dL_840 : decode cL 840 = .ok (.iconst 2, 1) := by decide +kernel
theorem dL_841 : decode cL 841 = .ok (.iadd, 1) := by decide +kernel
theorem dL_842 : decode cL 842 = .ok (.iaload, 1) := by decide +kernel
theorem dL_843 : decode cL 843 = .ok (.invokevirtual 123, 3) := by decide +kernel
theorem dL_846 : decode cL 846 = .ok (.if_icmp .eq 333, 3) := by decide +kernel
theorem dL_851 : decode cL 851 = .ok (.aload_n 1, 1) := by decide +kernel
theorem dL_852 : decode cL 852 = .ok (.aload_n 0, 1) := by decide +kernel
theorem dL_853 : decode cL 853 = .ok (.iload_n 3, 1) := by decide +kernel
theorem dL_854 : decode cL 854 = .ok (.iconst 1, 1) := by decide +kernel
theorem dL_855 : decode cL 855 = .ok (.iadd, 1) := by decide +kernel
theorem dL_856 : decode cL 856 = .ok (.iaload, 1) := by decide +kernel
theorem dL_857 : decode cL 857 = .ok (.invokevirtual 124, 3) := by decide +kernel
theorem dL_860 : decode cL 860 = .ok (.aload_n 2, 1) := by decide +kernel
theorem dL_861 : decode cL 861 = .ok (.aload_n 0, 1) := by decide +kernel
theorem dL_862 : decode cL 862 = .ok (.iload_n 3, 1) := by decide +kernel
theorem dL_863 : decode cL 863 = .ok (.iconst 1, 1) := by decide +kernel
theorem dL_864 : decode cL 864 = .ok (.iadd, 1) := by decide +kernel
theorem dL_865 : decode cL 865 = .ok (.iaload, 1) := by decide +kernel
theorem dL_866 : decode cL 866 = .ok (.invokevirtual 127, 3) := by decide +kernel
theorem dL_869 : decode cL 869 = .ok (.if_icmp .eq 310, 3) := by decide +kernel
theorem dL_874 : decode cL 874 = .ok (.aload_n 1, 1) := by decide +kernel
theorem dL_875 : decode cL 875 = .ok (.aload_n 0, 1) := by decide +kernel
theorem dL_876 : decode cL 876 = .ok (.iload_n 3, 1) := by decide +kernel
theorem dL_877 : decode cL 877 = .ok (.iconst 1, 1) := by decide +kernel
theorem dL_878 : decode cL 878 = .ok (.iadd, 1) := by decide +kernel
theorem dL_879 : decode cL 879 = .ok (.iaload, 1) := by decide +kernel
theorem dL_880 : decode cL 880 = .ok (.invokevirtual 128, 3) := by decide +kernel
theorem dL_883 : decode cL 883 = .ok (.aload_n 2, 1) := by decide +kernel
theorem dL_884 : decode cL 884 = .ok (.aload_n 0, 1) := by decide +kernel
theorem dL_885 : decode cL 885 = .ok (.iload_n 3, 1) := by decide +kernel
theorem dL_886 : decode cL 886 = .ok (.iconst 1, 1) := by decide +kernel
theorem dL_887 : decode cL 887 = .ok (.iadd, 1) := by decide +kernel
theorem dL_888 : decode cL 888 = .ok (.iaload, 1) := by decide +kernel
theorem dL_889 : decode cL 889 = .ok (.invokevirtual 131, 3) := by decide +kernel
theorem dL_892 : decode cL 892 = .ok (.if_icmp .eq 287, 3) := by decide +kernel
theorem dL_897 : decode cL 897 = .ok (.aload_n 1, 1) := by decide +kernel
theorem dL_898 : decode cL 898 = .ok (.aload_n 0, 1) := by decide +kernel
theorem dL_899 : decode cL 899 = .ok (.iload_n 3, 1) := by decide +kernel
theorem dL_900 : decode cL 900 = .ok (.iconst 1, 1) := by decide +kernel
theorem dL_901 : decode cL 901 = .ok (.iadd, 1) := by decide +kernel
theorem dL_902 : decode cL 902 = .ok (.iaload, 1) := by decide +kernel
theorem dL_903 : decode cL 903 = .ok (.invokevirtual 132, 3) := by decide +kernel
theorem dL_906 : decode cL 906 = .ok (.aload_n 2, 1) := by decide +kernel
theorem dL_907 : decode cL 907 = .ok (.aload_n 0, 1) := by decide +kernel
theorem dL_908 : decode cL 908 = .ok (.iload_n 3, 1) := by decide +kernel
theorem dL_909 : decode cL 909 = .ok (.iconst 1, 1) := by decide +kernel
theorem dL_910 : decode cL 910 = .ok (.iadd, 1) := by decide +kernel
theorem dL_911 : decode cL 911 = .ok (.iaload, 1) := by decide +kernel
theorem dL_912 : decode cL 912 = .ok (.invokevirtual 135, 3) := by decide +kernel
theorem dL_915 : decode cL 915 = .ok (.if_icmp .eq 264, 3) := by decide +kernel
theorem dL_920 : decode cL 920 = .ok (.aload_n 1, 1) := by decide +kernel
theorem dL_921 : decode cL 921 = .ok (.invokevirtual 136, 3) := by decide +kernel
theorem dL_924 : decode cL 924 = .ok (.aload_n 2, 1) := by decide +kernel
theorem dL_925 : decode cL 925 = .ok (.invokevirtual 139, 3) := by decide +kernel
theorem dL_928 : decode cL 928 = .ok (.if_icmp .eq 251, 3) := by decide +kernel
theorem dL_933 : decode cL 933 = .ok (.aload_n 1, 1) := by decide +kernel
theorem dL_934 : decode cL 934 = .ok (.invokevirtual 140, 3) := by decide +kernel
theorem dL_937 : decode cL 937 = .ok (.aload_n 2, 1) := by decide +kernel
theorem dL_938 : decode cL 938 = .ok (.invokevirtual 143, 3) := by decide +kernel
theorem dL_941 : decode cL 941 = .ok (.if_icmp .eq 238, 3) := by decide +kernel
theorem dL_946 : decode cL 946 = .ok (.aload_n 1, 1) := by decide +kernel
theorem dL_947 : decode cL 947 = .ok (.aload_n 0, 1) := by decide +kernel
theorem dL_948 : decode cL 948 = .ok (.iload_n 3, 1) := by decide +kernel
theorem dL_949 : decode cL 949 = .ok (.iconst 1, 1) := by decide +kernel
theorem dL_950 : decode cL 950 = .ok (.iadd, 1) := by decide +kernel
theorem dL_951 : decode cL 951 = .ok (.iaload, 1) := by decide +kernel
theorem dL_952 : decode cL 952 = .ok (.invokevirtual 144, 3) := by decide +kernel
theorem dL_955 : decode cL 955 = .ok (.aload_n 2, 1) := by decide +kernel
theorem dL_956 : decode cL 956 = .ok (.aload_n 0, 1) := by decide +kernel
theorem dL_957 : decode cL 957 = .ok (.iload_n 3, 1) := by decide +kernel
theorem dL_958 : decode cL 958 = .ok (.iconst 1, 1) := by decide +kernel
theorem dL_959 : decode cL 959 = .ok (.iadd, 1) := by decide +kernel
theorem dL_960 : decode cL 960 = .ok (.iaload, 1) := by decide +kernel
theorem dL_961 : decode cL 961 = .ok (.invokevirtual 147, 3) := by decide +kernel
theorem dL_964 : decode cL 964 = .ok (.if_icmp .eq 215, 3) := by decide +kernel
theorem dL_969 : decode cL 969 = .ok (.aload_n 1, 1) := by decide +kernel
theorem dL_970 : decode cL 970 = .ok (.aload_n 0, 1) := by decide +kernel
theorem dL_971 : decode cL 971 = .ok (.iload_n 3, 1) := by decide +kernel
theorem dL_972 : decode cL 972 = .ok (.iconst 1, 1) := by decide +kernel
theorem dL_973 : decode cL 973 = .ok (.iadd, 1) := by decide +kernel
theorem dL_974 : decode cL 974 = .ok (.iaload, 1) := by decide +kernel
theorem dL_975 : decode cL 975 = .ok (.aload_n 0, 1) := by decide +kernel
theorem dL_976 : decode cL 976 = .ok (.iload_n 3, 1) := by decide +kernel
theorem dL_977 : decode cL 977 = .ok (.iconst 2, 1) := by decide +kernel
theorem dL_978 : decode cL 978 = .ok (.iadd, 1) := by decide +kernel
theorem dL_979 : decode cL 979 = .ok (.iaload, 1) := by decide +kernel
theorem dL_980 : decode cL 980 = .ok (.invokevirtual 148, 3) := by decide +kernel
theorem dL_983 : decode cL 983 = .ok (.aload_n 2, 1) := by decide +kernel
theorem dL_984 : decode cL 984 = .ok (.aload_n 0, 1) := by decide +kernel
theorem dL_985 : decode cL 985 = .ok (.iload_n 3, 1) := by decide +kernel
theorem dL_986 : decode cL 986 = .ok (.iconst 1, 1) := by decide +kernel
theorem dL_987 : decode cL 987 = .ok (.iadd, 1) := by decide +kernel
theorem dL_988 : decode cL 988 = .ok (.iaload, 1) := by decide +kernel
theorem dL_989 : decode cL 989 = .ok (.aload_n 0, 1) := by decide +kernel
theorem dL_990 : decode cL 990 = .ok (.iload_n 3, 1) := by decide +kernel
theorem dL_991 : decode cL 991 = .ok (.iconst 2, 1) := by decide +kernel
theorem dL_992 : decode cL 992 = .ok (.iadd, 1) := by decide +kernel
theorem dL_993 : decode cL 993 = .ok (.iaload, 1) := by decide +kernel
theorem dL_994 : decode cL 994 = .ok (.invokevirtual 151, 3) := by decide +kernel
theorem dL_997 : decode cL 997 = .ok (.if_icmp .eq 182, 3) := by decide +kernel
theorem dL_1002 : decode cL 1002 = .ok (.aload_n 1, 1) := by decide +kernel
theorem dL_1003 : decode cL 1003 = .ok (.aload_n 0, 1) := by decide +kernel
theorem dL_1004 : decode cL 1004 = .ok (.iload_n 3, 1) := by decide +kernel
theorem dL_1005 : decode cL 1005 = .ok (.iconst 1, 1) := by decide +kernel
theorem dL_1006 : decode cL 1006 = .ok (.iadd, 1) := by decide +kernel
theorem dL_1007 : decode cL 1007 = .ok (.iaload, 1) := by decide +kernel
theorem dL_1008 : decode cL 1008 = .ok (.invokevirtual 152, 3) := by decide +kernel
theorem dL_1011 : decode cL 1011 = .ok (.aload_n 2, 1) := by decide +kernel
theorem dL_1012 : decode cL 1012 = .ok (.aload_n 0, 1) := by decide +kernel
theorem dL_1013 : decode cL 1013 = .ok (.iload_n 3, 1) := by decide +kernel
theorem dL_1014 : decode cL 1014 = .ok (.iconst 1, 1) := by decide +kernel
theorem dL_1015 : decode cL 1015 = .ok (.iadd, 1) := by decide +kernel
theorem dL_1016 : decode cL 1016 = .ok (.iaload, 1) := by decide +kernel
theorem dL_1017 : decode cL 1017 = .ok (.invokevirtual 155, 3) := by decide +kernel
theorem dL_1020 : decode cL 1020 = .ok (.if_icmp .eq 159, 3) := by decide +kernel
theorem dL_1025 : decode cL 1025 = .ok (.aload_n 1, 1) := by decide +kernel
theorem dL_1026 : decode cL 1026 = .ok (.invokevirtual 156, 3) := by decide +kernel
theorem dL_1029 : decode cL 1029 = .ok (.aload_n 2, 1) := by decide +kernel
theorem dL_1030 : decode cL 1030 = .ok (.invokevirtual 159, 3) := by decide +kernel
theorem dL_1033 : decode cL 1033 = .ok (.if_icmp .eq 146, 3) := by decide +kernel
theorem dL_1038 : decode cL 1038 = .ok (.aload_n 1, 1) := by decide +kernel
theorem dL_1039 : decode cL 1039 = .ok (.invokevirtual 160, 3) := by decide +kernel
theorem dL_1042 : decode cL 1042 = .ok (.aload_n 2, 1) := by decide +kernel
theorem dL_1043 : decode cL 1043 = .ok (.invokevirtual 163, 3) := by decide +kernel
theorem dL_1046 : decode cL 1046 = .ok (.if_icmp .eq 133, 3) := by decide +kernel
theorem dL_1051 : decode cL 1051 = .ok (.aload_n 1, 1) := by decide +kernel
theorem dL_1052 : decode cL 1052 = .ok (.aload_n 0, 1) := by decide +kernel
theorem dL_1053 : decode cL 1053 = .ok (.iload_n 3, 1) := by decide +kernel
theorem dL_1054 : decode cL 1054 = .ok (.iconst 1, 1) := by decide +kernel
theorem dL_1055 : decode cL 1055 = .ok (.iadd, 1) := by decide +kernel
theorem dL_1056 : decode cL 1056 = .ok (.iaload, 1) := by decide +kernel
theorem dL_1057 : decode cL 1057 = .ok (.aload_n 0, 1) := by decide +kernel
theorem dL_1058 : decode cL 1058 = .ok (.iload_n 3, 1) := by decide +kernel
theorem dL_1059 : decode cL 1059 = .ok (.iconst 2, 1) := by decide +kernel
theorem dL_1060 : decode cL 1060 = .ok (.iadd, 1) := by decide +kernel
theorem dL_1061 : decode cL 1061 = .ok (.iaload, 1) := by decide +kernel
theorem dL_1062 : decode cL 1062 = .ok (.invokevirtual 164, 3) := by decide +kernel
theorem dL_1065 : decode cL 1065 = .ok (.aload_n 2, 1) := by decide +kernel
theorem dL_1066 : decode cL 1066 = .ok (.aload_n 0, 1) := by decide +kernel
theorem dL_1067 : decode cL 1067 = .ok (.iload_n 3, 1) := by decide +kernel
theorem dL_1068 : decode cL 1068 = .ok (.iconst 1, 1) := by decide +kernel
theorem dL_1069 : decode cL 1069 = .ok (.iadd, 1) := by decide +kernel
theorem dL_1070 : decode cL 1070 = .ok (.iaload, 1) := by decide +kernel
theorem dL_1071 : decode cL 1071 = .ok (.aload_n 0, 1) := by decide +kernel
theorem dL_1072 : decode cL 1072 = .ok (.iload_n 3, 1) := by decide +kernel
theorem dL_1073 : decode cL 1073 = .ok (.iconst 2, 1) := by decide +kernel
theorem dL_1074 : decode cL 1074 = .ok (.iadd, 1) := by decide +kernel
theorem dL_1075 : decode cL 1075 = .ok (.iaload, 1) := by decide +kernel
theorem dL_1076 : decode cL 1076 = .ok (.invokevirtual 167, 3) := by decide +kernel
theorem dL_1079 : decode cL 1079 = .ok (.if_icmp .eq 100, 3) := by decide +kernel
theorem dL_1084 : decode cL 1084 = .ok (.aload_n 1, 1) := by decide +kernel
theorem dL_1085 : decode cL 1085 = .ok (.invokevirtual 168, 3) := by decide +kernel
theorem dL_1088 : decode cL 1088 = .ok (.aload_n 2, 1) := by decide +kernel
theorem dL_1089 : decode cL 1089 = .ok (.invokevirtual 171, 3) := by decide +kernel
theorem dL_1092 : decode cL 1092 = .ok (.if_icmp .eq 87, 3) := by decide +kernel
theorem dL_1097 : decode cL 1097 = .ok (.aload_n 1, 1) := by decide +kernel
theorem dL_1098 : decode cL 1098 = .ok (.invokevirtual 172, 3) := by decide +kernel
theorem dL_1101 : decode cL 1101 = .ok (.aload_n 2, 1) := by decide +kernel
theorem dL_1102 : decode cL 1102 = .ok (.invokevirtual 175, 3) := by decide +kernel
theorem dL_1105 : decode cL 1105 = .ok (.if_icmp .eq 74, 3) := by decide +kernel
theorem dL_1110 : decode cL 1110 = .ok (.aload_n 1, 1) := by decide +kernel
theorem dL_1111 : decode cL 1111 = .ok (.aload_n 0, 1) := by decide +kernel
theorem dL_1112 : decode cL 1112 = .ok (.iload_n 3, 1) := by decide +kernel
theorem dL_1113 : decode cL 1113 = .ok (.iconst 1, 1) := by decide +kernel
theorem dL_1114 : decode cL 1114 = .ok (.iadd, 1) := by decide +kernel
theorem dL_1115 : decode cL 1115 = .ok (.iaload, 1) := by decide +kernel
theorem dL_1116 : decode cL 1116 = .ok (.invokevirtual 176, 3) := by decide +kernel
theorem dL_1119 : decode cL 1119 = .ok (.aload_n 2, 1) := by decide +kernel
theorem dL_1120 : decode cL 1120 = .ok (.aload_n 0, 1) := by decide +kernel
theorem dL_1121 : decode cL 1121 = .ok (.iload_n 3, 1) := by decide +kernel
theorem dL_1122 : decode cL 1122 = .ok (.iconst 1, 1) := by decide +kernel
theorem dL_1123 : decode cL 1123 = .ok (.iadd, 1) := by decide +kernel
theorem dL_1124 : decode cL 1124 = .ok (.iaload, 1) := by decide +kernel
theorem dL_1125 : decode cL 1125 = .ok (.invokevirtual 179, 3) := by decide +kernel
theorem dL_1128 : decode cL 1128 = .ok (.if_icmp .eq 51, 3) := by decide +kernel
theorem dL_1133 : decode cL 1133 = .ok (.aload_n 1, 1) := by decide +kernel
theorem dL_1134 : decode cL 1134 = .ok (.aload_n 0, 1) := by decide +kernel
theorem dL_1135 : decode cL 1135 = .ok (.iload_n 3, 1) := by decide +kernel
theorem dL_1136 : decode cL 1136 = .ok (.iconst 1, 1) := by decide +kernel
theorem dL_1137 : decode cL 1137 = .ok (.iadd, 1) := by decide +kernel
theorem dL_1138 : decode cL 1138 = .ok (.iaload, 1) := by decide +kernel
theorem dL_1139 : decode cL 1139 = .ok (.invokevirtual 180, 3) := by decide +kernel
theorem dL_1142 : decode cL 1142 = .ok (.aload_n 2, 1) := by decide +kernel
theorem dL_1143 : decode cL 1143 = .ok (.aload_n 0, 1) := by decide +kernel
theorem dL_1144 : decode cL 1144 = .ok (.iload_n 3, 1) := by decide +kernel
theorem dL_1145 : decode cL 1145 = .ok (.iconst 1, 1) := by decide +kernel
theorem dL_1146 : decode cL 1146 = .ok (.iadd, 1) := by decide +kernel
theorem dL_1147 : decode cL 1147 = .ok (.iaload, 1) := by decide +kernel
theorem dL_1148 : decode cL 1148 = .ok (.invokevirtual 183, 3) := by decide +kernel
theorem dL_1151 : decode cL 1151 = .ok (.if_icmp .eq 28, 3) := by decide +kernel
theorem dL_1156 : decode cL 1156 = .ok (.aload_n 1, 1) := by decide +kernel
theorem dL_1157 : decode cL 1157 = .ok (.aload_n 0, 1) := by decide +kernel
theorem dL_1158 : decode cL 1158 = .ok (.iload_n 3, 1) := by decide +kernel
theorem dL_1159 : decode cL 1159 = .ok (.iconst 1, 1) := by decide +kernel
theorem dL_1160 : decode cL 1160 = .ok (.iadd, 1) := by decide +kernel
theorem dL_1161 : decode cL 1161 = .ok (.iaload, 1) := by decide +kernel
theorem dL_1162 : decode cL 1162 = .ok (.invokevirtual 184, 3) := by decide +kernel
theorem dL_1165 : decode cL 1165 = .ok (.aload_n 2, 1) := by decide +kernel
theorem dL_1166 : decode cL 1166 = .ok (.aload_n 0, 1) := by decide +kernel
theorem dL_1167 : decode cL 1167 = .ok (.iload_n 3, 1) := by decide +kernel
theorem dL_1168 : decode cL 1168 = .ok (.iconst 1, 1) := by decide +kernel
theorem dL_1169 : decode cL 1169 = .ok (.iadd, 1) := by decide +kernel
theorem dL_1170 : decode cL 1170 = .ok (.iaload, 1) := by decide +kernel
theorem dL_1171 : decode cL 1171 = .ok (.invokevirtual 187, 3) := by decide +kernel
theorem dL_1174 : decode cL 1174 = .ok (.if_icmp .eq 5, 3) := by decide +kernel
section LAW
variable {x : bo_X} {b n : Nat} {xs : Nat → Int32} {σ : bo_M} {i : Int32} {pc : Nat} {L : List (Nat × Value)} {S : List Value} {α : Type} {M : Option α} {k : α → Prop}
/-- the script, out of every world -/
def sc (x : bo_X) (b n : Nat) (xs : Nat → Int32) : Prop := match x with
  | (p, l, e, R, s, m, args, below, meth, c, g, A, cells, slots, Q) => va_X b n xs s s.heap ∧ b < s.heap.size ∧ ¬ A b
theorem bo_sld (hx : bo_OK x cL "BellRopeLaw" 4 9 320) (hs : sc x b n xs) {j : Int32} (hin : vp_in j n) (hd : decode cL pc = .ok (.iaload, 1)) (kk : bo_D x (pc + 1) L (.int (xs j.toNatClampNeg) :: S) σ M k) : bo_D x pc L (.int j :: .ref b :: S) σ M k := by
  obtain ⟨p, l, e, R, s, m, args, below, meth, c, g, A, cells, slots, Q⟩ := x
  obtain ⟨hex, hb, hml, hown, hts, hK, hNW, hi, hA, hfr, hlo, hce, hsl⟩ := hx
  obtain ⟨h1, h2, h3⟩ := hs
  intro r q1 q2 H locs ls hP hS hl
  exact va_sld hex hb h1 h2 h3 hS hin hd (kk r q1 q2 H locs ls hP hS hl)
theorem bo_slen (hx : bo_OK x cL "BellRopeLaw" 4 9 320) (hs : sc x b n xs) (hd : decode cL pc = .ok (.arraylength, 1)) (kk : bo_D x (pc + 1) L (.int (Int32.ofNat n) :: S) σ M k) : bo_D x pc L (.ref b :: S) σ M k := by
  obtain ⟨p, l, e, R, s, m, args, below, meth, c, g, A, cells, slots, Q⟩ := x
  obtain ⟨hex, hb, hml, hown, hts, hK, hNW, hi, hA, hfr, hlo, hce, hsl⟩ := hx
  obtain ⟨h1, h2, h3⟩ := hs
  intro r q1 q2 H locs ls hP hS hl
  exact va_slen hex hb h1 h2 h3 hS hd (kk r q1 q2 H locs ls hP hS hl)
abbrev lawL (x : bo_X) (b : Nat) (i : Int32) : List (Nat × Value) := [(3, .int i), (2, .ref (bo_a x 135)), (1, .ref (bo_a x 0)), (0, .ref b)]
noncomputable def lS_0 (σ : bo_M) (p q : Int32) : Option bo_M := (mX10_feed σ p).bind fun r0 => (mX11_feed r0.2 p).bind fun r1 => if r0.1 = r1.1 then some r1.2 else none
theorem lC_0 (hx : bo_OK x cL "BellRopeLaw" 4 9 320) (hs : sc x b n xs) (hin1 : vp_in (i + 1) n) (hin2 : vp_in (i + 2) n) : bo_D x 220 (lawL x b i) [] σ (lS_0 σ (xs (i + 1).toNatClampNeg) (xs (i + 2).toNatClampNeg)) (fun σ' => bo_N x 1179 (lawL x b i) [] σ') := by
  unfold lS_0
  refine bo_aload_n hx dL_220 rfl 2 rfl ?_
  refine bo_aload_n hx dL_221 rfl 3 rfl ?_
  refine bo_iload_n hx dL_222 rfl 0 rfl ?_
  refine bo_iconst (v := 1) hx dL_223 (by decide) ?_
  refine bo_iadd hx dL_224 ?_
  refine bo_sld hx hs hin1 dL_225 ?_
  refine bo_goW (z := false) hx (fun rr hh => bo_runV (As := [.int (xs (i + 1).toNatClampNeg)]) (S := []) hx dL_226 lk_L_13 mi_X10_feed bo_o_0 rfl rfl (kX10_feed (bo_l x) (bo_g x) hx.inj σ (xs (i + 1).toNatClampNeg) rr hh) ⟨by decide, by decide⟩ rfl rfl (Nat.le_of_ble_eq_true rfl)) (fun r0 _ => ?_)
  refine bo_aload_n hx dL_229 rfl 1 rfl ?_
  refine bo_aload_n hx dL_230 rfl 3 rfl ?_
  refine bo_iload_n hx dL_231 rfl 0 rfl ?_
  refine bo_iconst (v := 1) hx dL_232 (by decide) ?_
  refine bo_iadd hx dL_233 ?_
  refine bo_sld hx hs hin1 dL_234 ?_
  refine bo_goW (z := false) hx (fun rr hh => bo_runV (As := [.int (xs (i + 1).toNatClampNeg)]) (S := [.int (r0.1)]) hx dL_235 lk_L_17 mi_X11_feed bo_o_135 rfl rfl (kX11_feed (bo_l x) (bo_g x) hx.inj r0.2 (xs (i + 1).toNatClampNeg) rr hh) ⟨by decide, by decide⟩ rfl rfl (Nat.le_of_ble_eq_true rfl)) (fun r1 _ => ?_)
  exact bo_icmp_eq hx 1179 dL_238 (by decide) (bo_arr (fun h => h)) (fun _ h => by cases h)
noncomputable def lS_1 (σ : bo_M) (p q : Int32) : Option bo_M := (mX10_inn σ).bind fun r0 => (mX11_inn r0.2).bind fun r1 => if r0.1 = r1.1 then some r1.2 else none
theorem lC_1 (hx : bo_OK x cL "BellRopeLaw" 4 9 320) (hs : sc x b n xs) (hin1 : vp_in (i + 1) n) (hin2 : vp_in (i + 2) n) : bo_D x 243 (lawL x b i) [] σ (lS_1 σ (xs (i + 1).toNatClampNeg) (xs (i + 2).toNatClampNeg)) (fun σ' => bo_N x 1179 (lawL x b i) [] σ') := by
  unfold lS_1
  refine bo_aload_n hx dL_243 rfl 2 rfl ?_
  refine bo_goW (z := false) hx (fun rr hh => bo_runV (As := []) (S := []) hx dL_244 lk_L_18 mi_X10_inn bo_o_0 rfl rfl (kX10_inn (bo_l x) (bo_g x) hx.inj σ rr hh) ⟨by decide, by decide⟩ rfl rfl (Nat.le_of_ble_eq_true rfl)) (fun r0 _ => ?_)
  refine bo_aload_n hx dL_247 rfl 1 rfl ?_
  refine bo_goW (z := false) hx (fun rr hh => bo_runV (As := []) (S := [.int (r0.1)]) hx dL_248 lk_L_22 mi_X11_inn bo_o_135 rfl rfl (kX11_inn (bo_l x) (bo_g x) hx.inj r0.2 rr hh) ⟨by decide, by decide⟩ rfl rfl (Nat.le_of_ble_eq_true rfl)) (fun r1 _ => ?_)
  exact bo_icmp_eq hx 1179 dL_251 (by decide) (bo_arr (fun h => h)) (fun _ h => by cases h)
noncomputable def lS_2 (σ : bo_M) (p q : Int32) : Option bo_M := (mX10_fault σ).bind fun r0 => (mX11_fault σ).bind fun r1 => if r0 = r1 then some σ else none
theorem lC_2 (hx : bo_OK x cL "BellRopeLaw" 4 9 320) (hs : sc x b n xs) (hin1 : vp_in (i + 1) n) (hin2 : vp_in (i + 2) n) : bo_D x 256 (lawL x b i) [] σ (lS_2 σ (xs (i + 1).toNatClampNeg) (xs (i + 2).toNatClampNeg)) (fun σ' => bo_N x 1179 (lawL x b i) [] σ') := by
  unfold lS_2
  refine bo_aload_n hx dL_256 rfl 2 rfl ?_
  refine bo_goR (z := false) hx (fun rr hh => bo_runV (As := []) (S := []) hx dL_257 lk_L_23 mi_X10_fault bo_o_0 rfl rfl (kX10_fault (bo_l x) (bo_g x) hx.inj σ rr hh) ⟨by decide, by decide⟩ rfl rfl (Nat.le_of_ble_eq_true rfl)) (fun r0 _ => ?_)
  refine bo_aload_n hx dL_260 rfl 1 rfl ?_
  refine bo_goR (z := false) hx (fun rr hh => bo_runV (As := []) (S := [.int r0]) hx dL_261 lk_L_26 mi_X11_fault bo_o_135 rfl rfl (kX11_fault (bo_l x) (bo_g x) hx.inj σ rr hh) ⟨by decide, by decide⟩ rfl rfl (Nat.le_of_ble_eq_true rfl)) (fun r1 _ => ?_)
  exact bo_icmp_eq hx 1179 dL_264 (by decide) (bo_arr (fun h => h)) (fun _ h => by cases h)
noncomputable def lS_3 (σ : bo_M) (p q : Int32) : Option bo_M := (mX10_told σ p).bind fun r0 => (mX11_told σ p).bind fun r1 => if r0 = r1 then some σ else none
theorem lC_3 (hx : bo_OK x cL "BellRopeLaw" 4 9 320) (hs : sc x b n xs) (hin1 : vp_in (i + 1) n) (hin2 : vp_in (i + 2) n) : bo_D x 269 (lawL x b i) [] σ (lS_3 σ (xs (i + 1).toNatClampNeg) (xs (i + 2).toNatClampNeg)) (fun σ' => bo_N x 1179 (lawL x b i) [] σ') := by
  unfold lS_3
  refine bo_aload_n hx dL_269 rfl 2 rfl ?_
  refine bo_aload_n hx dL_270 rfl 3 rfl ?_
  refine bo_iload_n hx dL_271 rfl 0 rfl ?_
  refine bo_iconst (v := 1) hx dL_272 (by decide) ?_
  refine bo_iadd hx dL_273 ?_
  refine bo_sld hx hs hin1 dL_274 ?_
  refine bo_goR (z := false) hx (fun rr hh => bo_runV (As := [.int (xs (i + 1).toNatClampNeg)]) (S := []) hx dL_275 lk_L_27 mi_X10_told bo_o_0 rfl rfl (kX10_told (bo_l x) (bo_g x) hx.inj σ (xs (i + 1).toNatClampNeg) rr hh) ⟨by decide, by decide⟩ rfl rfl (Nat.le_of_ble_eq_true rfl)) (fun r0 _ => ?_)
  refine bo_aload_n hx dL_278 rfl 1 rfl ?_
  refine bo_aload_n hx dL_279 rfl 3 rfl ?_
  refine bo_iload_n hx dL_280 rfl 0 rfl ?_
  refine bo_iconst (v := 1) hx dL_281 (by decide) ?_
  refine bo_iadd hx dL_282 ?_
  refine bo_sld hx hs hin1 dL_283 ?_
  refine bo_goR (z := false) hx (fun rr hh => bo_runV (As := [.int (xs (i + 1).toNatClampNeg)]) (S := [.int r0]) hx dL_284 lk_L_30 mi_X11_told bo_o_135 rfl rfl (kX11_told (bo_l x) (bo_g x) hx.inj σ (xs (i + 1).toNatClampNeg) rr hh) ⟨by decide, by decide⟩ rfl rfl (Nat.le_of_ble_eq_true rfl)) (fun r1 _ => ?_)
  exact bo_icmp_eq hx 1179 dL_287 (by decide) (bo_arr (fun h => h)) (fun _ h => by cases h)
noncomputable def lS_4 (σ : bo_M) (p q : Int32) : Option bo_M := (mX10_drinker σ p q).bind fun r0 => (mX11_drinker σ p q).bind fun r1 => if r0 = r1 then some σ else none
theorem lC_4 (hx : bo_OK x cL "BellRopeLaw" 4 9 320) (hs : sc x b n xs) (hin1 : vp_in (i + 1) n) (hin2 : vp_in (i + 2) n) : bo_D x 292 (lawL x b i) [] σ (lS_4 σ (xs (i + 1).toNatClampNeg) (xs (i + 2).toNatClampNeg)) (fun σ' => bo_N x 1179 (lawL x b i) [] σ') := by
  unfold lS_4
  refine bo_aload_n hx dL_292 rfl 2 rfl ?_
  refine bo_aload_n hx dL_293 rfl 3 rfl ?_
  refine bo_iload_n hx dL_294 rfl 0 rfl ?_
  refine bo_iconst (v := 1) hx dL_295 (by decide) ?_
  refine bo_iadd hx dL_296 ?_
  refine bo_sld hx hs hin1 dL_297 ?_
  refine bo_aload_n hx dL_298 rfl 3 rfl ?_
  refine bo_iload_n hx dL_299 rfl 0 rfl ?_
  refine bo_iconst (v := 2) hx dL_300 (by decide) ?_
  refine bo_iadd hx dL_301 ?_
  refine bo_sld hx hs hin2 dL_302 ?_
  refine bo_goR (z := false) hx (fun rr hh => bo_runV (As := [.int (xs (i + 1).toNatClampNeg), .int (xs (i + 2).toNatClampNeg)]) (S := []) hx dL_303 lk_L_31 mi_X10_drinker bo_o_0 rfl rfl (kX10_drinker (bo_l x) (bo_g x) hx.inj σ (xs (i + 1).toNatClampNeg) (xs (i + 2).toNatClampNeg) rr hh) ⟨by decide, by decide⟩ rfl rfl (Nat.le_of_ble_eq_true rfl)) (fun r0 _ => ?_)
  refine bo_aload_n hx dL_306 rfl 1 rfl ?_
  refine bo_aload_n hx dL_307 rfl 3 rfl ?_
  refine bo_iload_n hx dL_308 rfl 0 rfl ?_
  refine bo_iconst (v := 1) hx dL_309 (by decide) ?_
  refine bo_iadd hx dL_310 ?_
  refine bo_sld hx hs hin1 dL_311 ?_
  refine bo_aload_n hx dL_312 rfl 3 rfl ?_
  refine bo_iload_n hx dL_313 rfl 0 rfl ?_
  refine bo_iconst (v := 2) hx dL_314 (by decide) ?_
  refine bo_iadd hx dL_315 ?_
  refine bo_sld hx hs hin2 dL_316 ?_
  refine bo_goR (z := false) hx (fun rr hh => bo_runV (As := [.int (xs (i + 1).toNatClampNeg), .int (xs (i + 2).toNatClampNeg)]) (S := [.int r0]) hx dL_317 lk_L_35 mi_X11_drinker bo_o_135 rfl rfl (kX11_drinker (bo_l x) (bo_g x) hx.inj σ (xs (i + 1).toNatClampNeg) (xs (i + 2).toNatClampNeg) rr hh) ⟨by decide, by decide⟩ rfl rfl (Nat.le_of_ble_eq_true rfl)) (fun r1 _ => ?_)
  exact bo_icmp_eq hx 1179 dL_320 (by decide) (bo_arr (fun h => h)) (fun _ h => by cases h)
noncomputable def lS_5 (σ : bo_M) (p q : Int32) : Option bo_M := (mX10_goer σ p q).bind fun r0 => (mX11_goer σ p q).bind fun r1 => if r0 = r1 then some σ else none
theorem lC_5 (hx : bo_OK x cL "BellRopeLaw" 4 9 320) (hs : sc x b n xs) (hin1 : vp_in (i + 1) n) (hin2 : vp_in (i + 2) n) : bo_D x 325 (lawL x b i) [] σ (lS_5 σ (xs (i + 1).toNatClampNeg) (xs (i + 2).toNatClampNeg)) (fun σ' => bo_N x 1179 (lawL x b i) [] σ') := by
  unfold lS_5
  refine bo_aload_n hx dL_325 rfl 2 rfl ?_
  refine bo_aload_n hx dL_326 rfl 3 rfl ?_
  refine bo_iload_n hx dL_327 rfl 0 rfl ?_
  refine bo_iconst (v := 1) hx dL_328 (by decide) ?_
  refine bo_iadd hx dL_329 ?_
  refine bo_sld hx hs hin1 dL_330 ?_
  refine bo_aload_n hx dL_331 rfl 3 rfl ?_
  refine bo_iload_n hx dL_332 rfl 0 rfl ?_
  refine bo_iconst (v := 2) hx dL_333 (by decide) ?_
  refine bo_iadd hx dL_334 ?_
  refine bo_sld hx hs hin2 dL_335 ?_
  refine bo_goR (z := false) hx (fun rr hh => bo_runV (As := [.int (xs (i + 1).toNatClampNeg), .int (xs (i + 2).toNatClampNeg)]) (S := []) hx dL_336 lk_L_36 mi_X10_goer bo_o_0 rfl rfl (kX10_goer (bo_l x) (bo_g x) hx.inj σ (xs (i + 1).toNatClampNeg) (xs (i + 2).toNatClampNeg) rr hh) ⟨by decide, by decide⟩ rfl rfl (Nat.le_of_ble_eq_true rfl)) (fun r0 _ => ?_)
  refine bo_aload_n hx dL_339 rfl 1 rfl ?_
  refine bo_aload_n hx dL_340 rfl 3 rfl ?_
  refine bo_iload_n hx dL_341 rfl 0 rfl ?_
  refine bo_iconst (v := 1) hx dL_342 (by decide) ?_
  refine bo_iadd hx dL_343 ?_
  refine bo_sld hx hs hin1 dL_344 ?_
  refine bo_aload_n hx dL_345 rfl 3 rfl ?_
  refine bo_iload_n hx dL_346 rfl 0 rfl ?_
  refine bo_iconst (v := 2) hx dL_347 (by decide) ?_
  refine bo_iadd hx dL_348 ?_
  refine bo_sld hx hs hin2 dL_349 ?_
  refine bo_goR (z := false) hx (fun rr hh => bo_runV (As := [.int (xs (i + 1).toNatClampNeg), .int (xs (i + 2).toNatClampNeg)]) (S := [.int r0]) hx dL_350 lk_L_39 mi_X11_goer bo_o_135 rfl rfl (kX11_goer (bo_l x) (bo_g x) hx.inj σ (xs (i + 1).toNatClampNeg) (xs (i + 2).toNatClampNeg) rr hh) ⟨by decide, by decide⟩ rfl rfl (Nat.le_of_ble_eq_true rfl)) (fun r1 _ => ?_)
  exact bo_icmp_eq hx 1179 dL_353 (by decide) (bo_arr (fun h => h)) (fun _ h => by cases h)
noncomputable def lS_6 (σ : bo_M) (p q : Int32) : Option bo_M := (mX10_signal σ p).bind fun r0 => (mX11_signal σ p).bind fun r1 => if r0 = r1 then some σ else none
theorem lC_6 (hx : bo_OK x cL "BellRopeLaw" 4 9 320) (hs : sc x b n xs) (hin1 : vp_in (i + 1) n) (hin2 : vp_in (i + 2) n) : bo_D x 358 (lawL x b i) [] σ (lS_6 σ (xs (i + 1).toNatClampNeg) (xs (i + 2).toNatClampNeg)) (fun σ' => bo_N x 1179 (lawL x b i) [] σ') := by
  unfold lS_6
  refine bo_aload_n hx dL_358 rfl 2 rfl ?_
  refine bo_aload_n hx dL_359 rfl 3 rfl ?_
  refine bo_iload_n hx dL_360 rfl 0 rfl ?_
  refine bo_iconst (v := 1) hx dL_361 (by decide) ?_
  refine bo_iadd hx dL_362 ?_
  refine bo_sld hx hs hin1 dL_363 ?_
  refine bo_goR (z := false) hx (fun rr hh => bo_runV (As := [.int (xs (i + 1).toNatClampNeg)]) (S := []) hx dL_364 lk_L_40 mi_X10_signal bo_o_0 rfl rfl (kX10_signal (bo_l x) (bo_g x) hx.inj σ (xs (i + 1).toNatClampNeg) rr hh) ⟨by decide, by decide⟩ rfl rfl (Nat.le_of_ble_eq_true rfl)) (fun r0 _ => ?_)
  refine bo_aload_n hx dL_367 rfl 1 rfl ?_
  refine bo_aload_n hx dL_368 rfl 3 rfl ?_
  refine bo_iload_n hx dL_369 rfl 0 rfl ?_
  refine bo_iconst (v := 1) hx dL_370 (by decide) ?_
  refine bo_iadd hx dL_371 ?_
  refine bo_sld hx hs hin1 dL_372 ?_
  refine bo_goR (z := false) hx (fun rr hh => bo_runV (As := [.int (xs (i + 1).toNatClampNeg)]) (S := [.int r0]) hx dL_373 lk_L_43 mi_X11_signal bo_o_135 rfl rfl (kX11_signal (bo_l x) (bo_g x) hx.inj σ (xs (i + 1).toNatClampNeg) rr hh) ⟨by decide, by decide⟩ rfl rfl (Nat.le_of_ble_eq_true rfl)) (fun r1 _ => ?_)
  exact bo_icmp_eq hx 1179 dL_376 (by decide) (bo_arr (fun h => h)) (fun _ h => by cases h)
noncomputable def lS_7 (σ : bo_M) (p q : Int32) : Option bo_M := (mX10_logged σ p q).bind fun r0 => (mX11_logged σ p q).bind fun r1 => if r0 = r1 then some σ else none
theorem lC_7 (hx : bo_OK x cL "BellRopeLaw" 4 9 320) (hs : sc x b n xs) (hin1 : vp_in (i + 1) n) (hin2 : vp_in (i + 2) n) : bo_D x 381 (lawL x b i) [] σ (lS_7 σ (xs (i + 1).toNatClampNeg) (xs (i + 2).toNatClampNeg)) (fun σ' => bo_N x 1179 (lawL x b i) [] σ') := by
  unfold lS_7
  refine bo_aload_n hx dL_381 rfl 2 rfl ?_
  refine bo_aload_n hx dL_382 rfl 3 rfl ?_
  refine bo_iload_n hx dL_383 rfl 0 rfl ?_
  refine bo_iconst (v := 1) hx dL_384 (by decide) ?_
  refine bo_iadd hx dL_385 ?_
  refine bo_sld hx hs hin1 dL_386 ?_
  refine bo_aload_n hx dL_387 rfl 3 rfl ?_
  refine bo_iload_n hx dL_388 rfl 0 rfl ?_
  refine bo_iconst (v := 2) hx dL_389 (by decide) ?_
  refine bo_iadd hx dL_390 ?_
  refine bo_sld hx hs hin2 dL_391 ?_
  refine bo_goR (z := false) hx (fun rr hh => bo_runV (As := [.int (xs (i + 1).toNatClampNeg), .int (xs (i + 2).toNatClampNeg)]) (S := []) hx dL_392 lk_L_44 mi_X10_logged bo_o_0 rfl rfl (kX10_logged (bo_l x) (bo_g x) hx.inj σ (xs (i + 1).toNatClampNeg) (xs (i + 2).toNatClampNeg) rr hh) ⟨by decide, by decide⟩ rfl rfl (Nat.le_of_ble_eq_true rfl)) (fun r0 _ => ?_)
  refine bo_aload_n hx dL_395 rfl 1 rfl ?_
  refine bo_aload_n hx dL_396 rfl 3 rfl ?_
  refine bo_iload_n hx dL_397 rfl 0 rfl ?_
  refine bo_iconst (v := 1) hx dL_398 (by decide) ?_
  refine bo_iadd hx dL_399 ?_
  refine bo_sld hx hs hin1 dL_400 ?_
  refine bo_aload_n hx dL_401 rfl 3 rfl ?_
  refine bo_iload_n hx dL_402 rfl 0 rfl ?_
  refine bo_iconst (v := 2) hx dL_403 (by decide) ?_
  refine bo_iadd hx dL_404 ?_
  refine bo_sld hx hs hin2 dL_405 ?_
  refine bo_goR (z := false) hx (fun rr hh => bo_runV (As := [.int (xs (i + 1).toNatClampNeg), .int (xs (i + 2).toNatClampNeg)]) (S := [.int r0]) hx dL_406 lk_L_47 mi_X11_logged bo_o_135 rfl rfl (kX11_logged (bo_l x) (bo_g x) hx.inj σ (xs (i + 1).toNatClampNeg) (xs (i + 2).toNatClampNeg) rr hh) ⟨by decide, by decide⟩ rfl rfl (Nat.le_of_ble_eq_true rfl)) (fun r1 _ => ?_)
  exact bo_icmp_eq hx 1179 dL_409 (by decide) (bo_arr (fun h => h)) (fun _ h => by cases h)
noncomputable def lS_8 (σ : bo_M) (p q : Int32) : Option bo_M := (mX10_quarter σ p).bind fun r0 => (mX11_quarter r0.2 p).bind fun r1 => if r0.1 = r1.1 then some r1.2 else none
theorem lC_8 (hx : bo_OK x cL "BellRopeLaw" 4 9 320) (hs : sc x b n xs) (hin1 : vp_in (i + 1) n) (hin2 : vp_in (i + 2) n) : bo_D x 414 (lawL x b i) [] σ (lS_8 σ (xs (i + 1).toNatClampNeg) (xs (i + 2).toNatClampNeg)) (fun σ' => bo_N x 1179 (lawL x b i) [] σ') := by
  unfold lS_8
  refine bo_aload_n hx dL_414 rfl 2 rfl ?_
  refine bo_aload_n hx dL_415 rfl 3 rfl ?_
  refine bo_iload_n hx dL_416 rfl 0 rfl ?_
  refine bo_iconst (v := 1) hx dL_417 (by decide) ?_
  refine bo_iadd hx dL_418 ?_
  refine bo_sld hx hs hin1 dL_419 ?_
  refine bo_goW (z := false) hx (fun rr hh => bo_runV (As := [.int (xs (i + 1).toNatClampNeg)]) (S := []) hx dL_420 lk_L_48 mi_X10_quarter bo_o_0 rfl rfl (kX10_quarter (bo_l x) (bo_g x) hx.inj σ (xs (i + 1).toNatClampNeg) rr hh) ⟨by decide, by decide⟩ rfl rfl (Nat.le_of_ble_eq_true rfl)) (fun r0 _ => ?_)
  refine bo_aload_n hx dL_423 rfl 1 rfl ?_
  refine bo_aload_n hx dL_424 rfl 3 rfl ?_
  refine bo_iload_n hx dL_425 rfl 0 rfl ?_
  refine bo_iconst (v := 1) hx dL_426 (by decide) ?_
  refine bo_iadd hx dL_427 ?_
  refine bo_sld hx hs hin1 dL_428 ?_
  refine bo_goW (z := false) hx (fun rr hh => bo_runV (As := [.int (xs (i + 1).toNatClampNeg)]) (S := [.int (r0.1)]) hx dL_429 lk_L_51 mi_X11_quarter bo_o_135 rfl rfl (kX11_quarter (bo_l x) (bo_g x) hx.inj r0.2 (xs (i + 1).toNatClampNeg) rr hh) ⟨by decide, by decide⟩ rfl rfl (Nat.le_of_ble_eq_true rfl)) (fun r1 _ => ?_)
  exact bo_icmp_eq hx 1179 dL_432 (by decide) (bo_arr (fun h => h)) (fun _ h => by cases h)
noncomputable def lS_9 (σ : bo_M) (p q : Int32) : Option bo_M := (mX10_come σ p).bind fun r0 => (mX11_come r0.2 p).bind fun r1 => if r0.1 = r1.1 then some r1.2 else none
theorem lC_9 (hx : bo_OK x cL "BellRopeLaw" 4 9 320) (hs : sc x b n xs) (hin1 : vp_in (i + 1) n) (hin2 : vp_in (i + 2) n) : bo_D x 437 (lawL x b i) [] σ (lS_9 σ (xs (i + 1).toNatClampNeg) (xs (i + 2).toNatClampNeg)) (fun σ' => bo_N x 1179 (lawL x b i) [] σ') := by
  unfold lS_9
  refine bo_aload_n hx dL_437 rfl 2 rfl ?_
  refine bo_aload_n hx dL_438 rfl 3 rfl ?_
  refine bo_iload_n hx dL_439 rfl 0 rfl ?_
  refine bo_iconst (v := 1) hx dL_440 (by decide) ?_
  refine bo_iadd hx dL_441 ?_
  refine bo_sld hx hs hin1 dL_442 ?_
  refine bo_goW (z := false) hx (fun rr hh => bo_runV (As := [.int (xs (i + 1).toNatClampNeg)]) (S := []) hx dL_443 lk_L_52 mi_X10_come bo_o_0 rfl rfl (kX10_come (bo_l x) (bo_g x) hx.inj σ (xs (i + 1).toNatClampNeg) rr hh) ⟨by decide, by decide⟩ rfl rfl (Nat.le_of_ble_eq_true rfl)) (fun r0 _ => ?_)
  refine bo_aload_n hx dL_446 rfl 1 rfl ?_
  refine bo_aload_n hx dL_447 rfl 3 rfl ?_
  refine bo_iload_n hx dL_448 rfl 0 rfl ?_
  refine bo_iconst (v := 1) hx dL_449 (by decide) ?_
  refine bo_iadd hx dL_450 ?_
  refine bo_sld hx hs hin1 dL_451 ?_
  refine bo_goW (z := false) hx (fun rr hh => bo_runV (As := [.int (xs (i + 1).toNatClampNeg)]) (S := [.int (r0.1)]) hx dL_452 lk_L_55 mi_X11_come bo_o_135 rfl rfl (kX11_come (bo_l x) (bo_g x) hx.inj r0.2 (xs (i + 1).toNatClampNeg) rr hh) ⟨by decide, by decide⟩ rfl rfl (Nat.le_of_ble_eq_true rfl)) (fun r1 _ => ?_)
  exact bo_icmp_eq hx 1179 dL_455 (by decide) (bo_arr (fun h => h)) (fun _ h => by cases h)
noncomputable def lS_10 (σ : bo_M) (p q : Int32) : Option bo_M := (mX10_go σ p).bind fun r0 => (mX11_go r0.2 p).bind fun r1 => if r0.1 = r1.1 then some r1.2 else none
theorem lC_10 (hx : bo_OK x cL "BellRopeLaw" 4 9 320) (hs : sc x b n xs) (hin1 : vp_in (i + 1) n) (hin2 : vp_in (i + 2) n) : bo_D x 460 (lawL x b i) [] σ (lS_10 σ (xs (i + 1).toNatClampNeg) (xs (i + 2).toNatClampNeg)) (fun σ' => bo_N x 1179 (lawL x b i) [] σ') := by
  unfold lS_10
  refine bo_aload_n hx dL_460 rfl 2 rfl ?_
  refine bo_aload_n hx dL_461 rfl 3 rfl ?_
  refine bo_iload_n hx dL_462 rfl 0 rfl ?_
  refine bo_iconst (v := 1) hx dL_463 (by decide) ?_
  refine bo_iadd hx dL_464 ?_
  refine bo_sld hx hs hin1 dL_465 ?_
  refine bo_goW (z := false) hx (fun rr hh => bo_runV (As := [.int (xs (i + 1).toNatClampNeg)]) (S := []) hx dL_466 lk_L_56 mi_X10_go bo_o_0 rfl rfl (kX10_go (bo_l x) (bo_g x) hx.inj σ (xs (i + 1).toNatClampNeg) rr hh) ⟨by decide, by decide⟩ rfl rfl (Nat.le_of_ble_eq_true rfl)) (fun r0 _ => ?_)
  refine bo_aload_n hx dL_469 rfl 1 rfl ?_
  refine bo_aload_n hx dL_470 rfl 3 rfl ?_
  refine bo_iload_n hx dL_471 rfl 0 rfl ?_
  refine bo_iconst (v := 1) hx dL_472 (by decide) ?_
  refine bo_iadd hx dL_473 ?_
  refine bo_sld hx hs hin1 dL_474 ?_
  refine bo_goW (z := false) hx (fun rr hh => bo_runV (As := [.int (xs (i + 1).toNatClampNeg)]) (S := [.int (r0.1)]) hx dL_475 lk_L_59 mi_X11_go bo_o_135 rfl rfl (kX11_go (bo_l x) (bo_g x) hx.inj r0.2 (xs (i + 1).toNatClampNeg) rr hh) ⟨by decide, by decide⟩ rfl rfl (Nat.le_of_ble_eq_true rfl)) (fun r1 _ => ?_)
  exact bo_icmp_eq hx 1179 dL_478 (by decide) (bo_arr (fun h => h)) (fun _ h => by cases h)
noncomputable def lS_11 (σ : bo_M) (p q : Int32) : Option bo_M := (mX10_treat σ p q).bind fun r0 => (mX11_treat r0.2 p q).bind fun r1 => if r0.1 = r1.1 then some r1.2 else none
theorem lC_11 (hx : bo_OK x cL "BellRopeLaw" 4 9 320) (hs : sc x b n xs) (hin1 : vp_in (i + 1) n) (hin2 : vp_in (i + 2) n) : bo_D x 483 (lawL x b i) [] σ (lS_11 σ (xs (i + 1).toNatClampNeg) (xs (i + 2).toNatClampNeg)) (fun σ' => bo_N x 1179 (lawL x b i) [] σ') := by
  unfold lS_11
  refine bo_aload_n hx dL_483 rfl 2 rfl ?_
  refine bo_aload_n hx dL_484 rfl 3 rfl ?_
  refine bo_iload_n hx dL_485 rfl 0 rfl ?_
  refine bo_iconst (v := 1) hx dL_486 (by decide) ?_
  refine bo_iadd hx dL_487 ?_
  refine bo_sld hx hs hin1 dL_488 ?_
  refine bo_aload_n hx dL_489 rfl 3 rfl ?_
  refine bo_iload_n hx dL_490 rfl 0 rfl ?_
  refine bo_iconst (v := 2) hx dL_491 (by decide) ?_
  refine bo_iadd hx dL_492 ?_
  refine bo_sld hx hs hin2 dL_493 ?_
  refine bo_goW (z := false) hx (fun rr hh => bo_runV (As := [.int (xs (i + 1).toNatClampNeg), .int (xs (i + 2).toNatClampNeg)]) (S := []) hx dL_494 lk_L_60 mi_X10_treat bo_o_0 rfl rfl (kX10_treat (bo_l x) (bo_g x) hx.inj σ (xs (i + 1).toNatClampNeg) (xs (i + 2).toNatClampNeg) rr hh) ⟨by decide, by decide⟩ rfl rfl (Nat.le_of_ble_eq_true rfl)) (fun r0 _ => ?_)
  refine bo_aload_n hx dL_497 rfl 1 rfl ?_
  refine bo_aload_n hx dL_498 rfl 3 rfl ?_
  refine bo_iload_n hx dL_499 rfl 0 rfl ?_
  refine bo_iconst (v := 1) hx dL_500 (by decide) ?_
  refine bo_iadd hx dL_501 ?_
  refine bo_sld hx hs hin1 dL_502 ?_
  refine bo_aload_n hx dL_503 rfl 3 rfl ?_
  refine bo_iload_n hx dL_504 rfl 0 rfl ?_
  refine bo_iconst (v := 2) hx dL_505 (by decide) ?_
  refine bo_iadd hx dL_506 ?_
  refine bo_sld hx hs hin2 dL_507 ?_
  refine bo_goW (z := false) hx (fun rr hh => bo_runV (As := [.int (xs (i + 1).toNatClampNeg), .int (xs (i + 2).toNatClampNeg)]) (S := [.int (r0.1)]) hx dL_508 lk_L_63 mi_X11_treat bo_o_135 rfl rfl (kX11_treat (bo_l x) (bo_g x) hx.inj r0.2 (xs (i + 1).toNatClampNeg) (xs (i + 2).toNatClampNeg) rr hh) ⟨by decide, by decide⟩ rfl rfl (Nat.le_of_ble_eq_true rfl)) (fun r1 _ => ?_)
  exact bo_icmp_eq hx 1179 dL_511 (by decide) (bo_arr (fun h => h)) (fun _ h => by cases h)
noncomputable def lS_12 (σ : bo_M) (p q : Int32) : Option bo_M := (mX10_turn σ p q).bind fun r0 => (mX11_turn r0.2 p q).bind fun r1 => if r0.1 = r1.1 then some r1.2 else none
theorem lC_12 (hx : bo_OK x cL "BellRopeLaw" 4 9 320) (hs : sc x b n xs) (hin1 : vp_in (i + 1) n) (hin2 : vp_in (i + 2) n) : bo_D x 516 (lawL x b i) [] σ (lS_12 σ (xs (i + 1).toNatClampNeg) (xs (i + 2).toNatClampNeg)) (fun σ' => bo_N x 1179 (lawL x b i) [] σ') := by
  unfold lS_12
  refine bo_aload_n hx dL_516 rfl 2 rfl ?_
  refine bo_aload_n hx dL_517 rfl 3 rfl ?_
  refine bo_iload_n hx dL_518 rfl 0 rfl ?_
  refine bo_iconst (v := 1) hx dL_519 (by decide) ?_
  refine bo_iadd hx dL_520 ?_
  refine bo_sld hx hs hin1 dL_521 ?_
  refine bo_aload_n hx dL_522 rfl 3 rfl ?_
  refine bo_iload_n hx dL_523 rfl 0 rfl ?_
  refine bo_iconst (v := 2) hx dL_524 (by decide) ?_
  refine bo_iadd hx dL_525 ?_
  refine bo_sld hx hs hin2 dL_526 ?_
  refine bo_goW (z := false) hx (fun rr hh => bo_runV (As := [.int (xs (i + 1).toNatClampNeg), .int (xs (i + 2).toNatClampNeg)]) (S := []) hx dL_527 lk_L_64 mi_X10_turn bo_o_0 rfl rfl (kX10_turn (bo_l x) (bo_g x) hx.inj σ (xs (i + 1).toNatClampNeg) (xs (i + 2).toNatClampNeg) rr hh) ⟨by decide, by decide⟩ rfl rfl (Nat.le_of_ble_eq_true rfl)) (fun r0 _ => ?_)
  refine bo_aload_n hx dL_530 rfl 1 rfl ?_
  refine bo_aload_n hx dL_531 rfl 3 rfl ?_
  refine bo_iload_n hx dL_532 rfl 0 rfl ?_
  refine bo_iconst (v := 1) hx dL_533 (by decide) ?_
  refine bo_iadd hx dL_534 ?_
  refine bo_sld hx hs hin1 dL_535 ?_
  refine bo_aload_n hx dL_536 rfl 3 rfl ?_
  refine bo_iload_n hx dL_537 rfl 0 rfl ?_
  refine bo_iconst (v := 2) hx dL_538 (by decide) ?_
  refine bo_iadd hx dL_539 ?_
  refine bo_sld hx hs hin2 dL_540 ?_
  refine bo_goW (z := false) hx (fun rr hh => bo_runV (As := [.int (xs (i + 1).toNatClampNeg), .int (xs (i + 2).toNatClampNeg)]) (S := [.int (r0.1)]) hx dL_541 lk_L_67 mi_X11_turn bo_o_135 rfl rfl (kX11_turn (bo_l x) (bo_g x) hx.inj r0.2 (xs (i + 1).toNatClampNeg) (xs (i + 2).toNatClampNeg) rr hh) ⟨by decide, by decide⟩ rfl rfl (Nat.le_of_ble_eq_true rfl)) (fun r1 _ => ?_)
  exact bo_icmp_eq hx 1179 dL_544 (by decide) (bo_arr (fun h => h)) (fun _ h => by cases h)
noncomputable def lS_13 (σ : bo_M) (p q : Int32) : Option bo_M := (mX10_hang σ p).bind fun r0 => (mX11_hang r0.2 p).bind fun r1 => if r0.1 = r1.1 then some r1.2 else none
theorem lC_13 (hx : bo_OK x cL "BellRopeLaw" 4 9 320) (hs : sc x b n xs) (hin1 : vp_in (i + 1) n) (hin2 : vp_in (i + 2) n) : bo_D x 549 (lawL x b i) [] σ (lS_13 σ (xs (i + 1).toNatClampNeg) (xs (i + 2).toNatClampNeg)) (fun σ' => bo_N x 1179 (lawL x b i) [] σ') := by
  unfold lS_13
  refine bo_aload_n hx dL_549 rfl 2 rfl ?_
  refine bo_aload_n hx dL_550 rfl 3 rfl ?_
  refine bo_iload_n hx dL_551 rfl 0 rfl ?_
  refine bo_iconst (v := 1) hx dL_552 (by decide) ?_
  refine bo_iadd hx dL_553 ?_
  refine bo_sld hx hs hin1 dL_554 ?_
  refine bo_goW (z := false) hx (fun rr hh => bo_runV (As := [.int (xs (i + 1).toNatClampNeg)]) (S := []) hx dL_555 lk_L_68 mi_X10_hang bo_o_0 rfl rfl (kX10_hang (bo_l x) (bo_g x) hx.inj σ (xs (i + 1).toNatClampNeg) rr hh) ⟨by decide, by decide⟩ rfl rfl (Nat.le_of_ble_eq_true rfl)) (fun r0 _ => ?_)
  refine bo_aload_n hx dL_558 rfl 1 rfl ?_
  refine bo_aload_n hx dL_559 rfl 3 rfl ?_
  refine bo_iload_n hx dL_560 rfl 0 rfl ?_
  refine bo_iconst (v := 1) hx dL_561 (by decide) ?_
  refine bo_iadd hx dL_562 ?_
  refine bo_sld hx hs hin1 dL_563 ?_
  refine bo_goW (z := false) hx (fun rr hh => bo_runV (As := [.int (xs (i + 1).toNatClampNeg)]) (S := [.int (r0.1)]) hx dL_564 lk_L_71 mi_X11_hang bo_o_135 rfl rfl (kX11_hang (bo_l x) (bo_g x) hx.inj r0.2 (xs (i + 1).toNatClampNeg) rr hh) ⟨by decide, by decide⟩ rfl rfl (Nat.le_of_ble_eq_true rfl)) (fun r1 _ => ?_)
  exact bo_icmp_eq hx 1179 dL_567 (by decide) (bo_arr (fun h => h)) (fun _ h => by cases h)
noncomputable def lS_14 (σ : bo_M) (p q : Int32) : Option bo_M := (mX10_rain σ p).bind fun r0 => (mX11_rain r0.2 p).bind fun r1 => if r0.1 = r1.1 then some r1.2 else none
theorem lC_14 (hx : bo_OK x cL "BellRopeLaw" 4 9 320) (hs : sc x b n xs) (hin1 : vp_in (i + 1) n) (hin2 : vp_in (i + 2) n) : bo_D x 572 (lawL x b i) [] σ (lS_14 σ (xs (i + 1).toNatClampNeg) (xs (i + 2).toNatClampNeg)) (fun σ' => bo_N x 1179 (lawL x b i) [] σ') := by
  unfold lS_14
  refine bo_aload_n hx dL_572 rfl 2 rfl ?_
  refine bo_aload_n hx dL_573 rfl 3 rfl ?_
  refine bo_iload_n hx dL_574 rfl 0 rfl ?_
  refine bo_iconst (v := 1) hx dL_575 (by decide) ?_
  refine bo_iadd hx dL_576 ?_
  refine bo_sld hx hs hin1 dL_577 ?_
  refine bo_goW (z := false) hx (fun rr hh => bo_runV (As := [.int (xs (i + 1).toNatClampNeg)]) (S := []) hx dL_578 lk_L_72 mi_X10_rain bo_o_0 rfl rfl (kX10_rain (bo_l x) (bo_g x) hx.inj σ (xs (i + 1).toNatClampNeg) rr hh) ⟨by decide, by decide⟩ rfl rfl (Nat.le_of_ble_eq_true rfl)) (fun r0 _ => ?_)
  refine bo_aload_n hx dL_581 rfl 1 rfl ?_
  refine bo_aload_n hx dL_582 rfl 3 rfl ?_
  refine bo_iload_n hx dL_583 rfl 0 rfl ?_
  refine bo_iconst (v := 1) hx dL_584 (by decide) ?_
  refine bo_iadd hx dL_585 ?_
  refine bo_sld hx hs hin1 dL_586 ?_
  refine bo_goW (z := false) hx (fun rr hh => bo_runV (As := [.int (xs (i + 1).toNatClampNeg)]) (S := [.int (r0.1)]) hx dL_587 lk_L_75 mi_X11_rain bo_o_135 rfl rfl (kX11_rain (bo_l x) (bo_g x) hx.inj r0.2 (xs (i + 1).toNatClampNeg) rr hh) ⟨by decide, by decide⟩ rfl rfl (Nat.le_of_ble_eq_true rfl)) (fun r1 _ => ?_)
  exact bo_icmp_eq hx 1179 dL_590 (by decide) (bo_arr (fun h => h)) (fun _ h => by cases h)
noncomputable def lS_15 (σ : bo_M) (p q : Int32) : Option bo_M := (mX10_drift σ p).bind fun r0 => (mX11_drift r0.2 p).bind fun r1 => if r0.1 = r1.1 then some r1.2 else none
theorem lC_15 (hx : bo_OK x cL "BellRopeLaw" 4 9 320) (hs : sc x b n xs) (hin1 : vp_in (i + 1) n) (hin2 : vp_in (i + 2) n) : bo_D x 595 (lawL x b i) [] σ (lS_15 σ (xs (i + 1).toNatClampNeg) (xs (i + 2).toNatClampNeg)) (fun σ' => bo_N x 1179 (lawL x b i) [] σ') := by
  unfold lS_15
  refine bo_aload_n hx dL_595 rfl 2 rfl ?_
  refine bo_aload_n hx dL_596 rfl 3 rfl ?_
  refine bo_iload_n hx dL_597 rfl 0 rfl ?_
  refine bo_iconst (v := 1) hx dL_598 (by decide) ?_
  refine bo_iadd hx dL_599 ?_
  refine bo_sld hx hs hin1 dL_600 ?_
  refine bo_goW (z := false) hx (fun rr hh => bo_runV (As := [.int (xs (i + 1).toNatClampNeg)]) (S := []) hx dL_601 lk_L_76 mi_X10_drift bo_o_0 rfl rfl (kX10_drift (bo_l x) (bo_g x) hx.inj σ (xs (i + 1).toNatClampNeg) rr hh) ⟨by decide, by decide⟩ rfl rfl (Nat.le_of_ble_eq_true rfl)) (fun r0 _ => ?_)
  refine bo_aload_n hx dL_604 rfl 1 rfl ?_
  refine bo_aload_n hx dL_605 rfl 3 rfl ?_
  refine bo_iload_n hx dL_606 rfl 0 rfl ?_
  refine bo_iconst (v := 1) hx dL_607 (by decide) ?_
  refine bo_iadd hx dL_608 ?_
  refine bo_sld hx hs hin1 dL_609 ?_
  refine bo_goW (z := false) hx (fun rr hh => bo_runV (As := [.int (xs (i + 1).toNatClampNeg)]) (S := [.int (r0.1)]) hx dL_610 lk_L_79 mi_X11_drift bo_o_135 rfl rfl (kX11_drift (bo_l x) (bo_g x) hx.inj r0.2 (xs (i + 1).toNatClampNeg) rr hh) ⟨by decide, by decide⟩ rfl rfl (Nat.le_of_ble_eq_true rfl)) (fun r1 _ => ?_)
  exact bo_icmp_eq hx 1179 dL_613 (by decide) (bo_arr (fun h => h)) (fun _ h => by cases h)
noncomputable def lS_16 (σ : bo_M) (p q : Int32) : Option bo_M := (mX10_undo σ).bind fun r0 => (mX11_undo r0.2).bind fun r1 => if r0.1 = r1.1 then some r1.2 else none
theorem lC_16 (hx : bo_OK x cL "BellRopeLaw" 4 9 320) (hs : sc x b n xs) (hin1 : vp_in (i + 1) n) (hin2 : vp_in (i + 2) n) : bo_D x 618 (lawL x b i) [] σ (lS_16 σ (xs (i + 1).toNatClampNeg) (xs (i + 2).toNatClampNeg)) (fun σ' => bo_N x 1179 (lawL x b i) [] σ') := by
  unfold lS_16
  refine bo_aload_n hx dL_618 rfl 2 rfl ?_
  refine bo_goW (z := false) hx (fun rr hh => bo_runV (As := []) (S := []) hx dL_619 lk_L_80 mi_X10_undo bo_o_0 rfl rfl (kX10_undo (bo_l x) (bo_g x) hx.inj σ rr hh) ⟨by decide, by decide⟩ rfl rfl (Nat.le_of_ble_eq_true rfl)) (fun r0 _ => ?_)
  refine bo_aload_n hx dL_622 rfl 1 rfl ?_
  refine bo_goW (z := false) hx (fun rr hh => bo_runV (As := []) (S := [.int (r0.1)]) hx dL_623 lk_L_83 mi_X11_undo bo_o_135 rfl rfl (kX11_undo (bo_l x) (bo_g x) hx.inj r0.2 rr hh) ⟨by decide, by decide⟩ rfl rfl (Nat.le_of_ble_eq_true rfl)) (fun r1 _ => ?_)
  exact bo_icmp_eq hx 1179 dL_626 (by decide) (bo_arr (fun h => h)) (fun _ h => by cases h)
noncomputable def lS_17 (σ : bo_M) (p q : Int32) : Option bo_M := (mX10_strikes σ p).bind fun r0 => (mX11_strikes r0.2 p).bind fun r1 => if r0.1 = r1.1 then some r1.2 else none
theorem lC_17 (hx : bo_OK x cL "BellRopeLaw" 4 9 320) (hs : sc x b n xs) (hin1 : vp_in (i + 1) n) (hin2 : vp_in (i + 2) n) : bo_D x 631 (lawL x b i) [] σ (lS_17 σ (xs (i + 1).toNatClampNeg) (xs (i + 2).toNatClampNeg)) (fun σ' => bo_N x 1179 (lawL x b i) [] σ') := by
  unfold lS_17
  refine bo_aload_n hx dL_631 rfl 2 rfl ?_
  refine bo_aload_n hx dL_632 rfl 3 rfl ?_
  refine bo_iload_n hx dL_633 rfl 0 rfl ?_
  refine bo_iconst (v := 1) hx dL_634 (by decide) ?_
  refine bo_iadd hx dL_635 ?_
  refine bo_sld hx hs hin1 dL_636 ?_
  refine bo_goW (z := false) hx (fun rr hh => bo_runV (As := [.int (xs (i + 1).toNatClampNeg)]) (S := []) hx dL_637 lk_L_84 mi_X10_strikes bo_o_0 rfl rfl (kX10_strikes (bo_l x) (bo_g x) hx.inj σ (xs (i + 1).toNatClampNeg) rr hh) ⟨by decide, by decide⟩ rfl rfl (Nat.le_of_ble_eq_true rfl)) (fun r0 _ => ?_)
  refine bo_aload_n hx dL_640 rfl 1 rfl ?_
  refine bo_aload_n hx dL_641 rfl 3 rfl ?_
  refine bo_iload_n hx dL_642 rfl 0 rfl ?_
  refine bo_iconst (v := 1) hx dL_643 (by decide) ?_
  refine bo_iadd hx dL_644 ?_
  refine bo_sld hx hs hin1 dL_645 ?_
  refine bo_goW (z := false) hx (fun rr hh => bo_runV (As := [.int (xs (i + 1).toNatClampNeg)]) (S := [.int (r0.1)]) hx dL_646 lk_L_87 mi_X11_strikes bo_o_135 rfl rfl (kX11_strikes (bo_l x) (bo_g x) hx.inj r0.2 (xs (i + 1).toNatClampNeg) rr hh) ⟨by decide, by decide⟩ rfl rfl (Nat.le_of_ble_eq_true rfl)) (fun r1 _ => ?_)
  exact bo_icmp_eq hx 1179 dL_649 (by decide) (bo_arr (fun h => h)) (fun _ h => by cases h)
noncomputable def lS_18 (σ : bo_M) (p q : Int32) : Option bo_M := (mX10_when σ p).bind fun r0 => (mX11_when r0.2 p).bind fun r1 => if r0.1 = r1.1 then some r1.2 else none
theorem lC_18 (hx : bo_OK x cL "BellRopeLaw" 4 9 320) (hs : sc x b n xs) (hin1 : vp_in (i + 1) n) (hin2 : vp_in (i + 2) n) : bo_D x 654 (lawL x b i) [] σ (lS_18 σ (xs (i + 1).toNatClampNeg) (xs (i + 2).toNatClampNeg)) (fun σ' => bo_N x 1179 (lawL x b i) [] σ') := by
  unfold lS_18
  refine bo_aload_n hx dL_654 rfl 2 rfl ?_
  refine bo_aload_n hx dL_655 rfl 3 rfl ?_
  refine bo_iload_n hx dL_656 rfl 0 rfl ?_
  refine bo_iconst (v := 1) hx dL_657 (by decide) ?_
  refine bo_iadd hx dL_658 ?_
  refine bo_sld hx hs hin1 dL_659 ?_
  refine bo_goW (z := false) hx (fun rr hh => bo_runV (As := [.int (xs (i + 1).toNatClampNeg)]) (S := []) hx dL_660 lk_L_88 mi_X10_when bo_o_0 rfl rfl (kX10_when (bo_l x) (bo_g x) hx.inj σ (xs (i + 1).toNatClampNeg) rr hh) ⟨by decide, by decide⟩ rfl rfl (Nat.le_of_ble_eq_true rfl)) (fun r0 _ => ?_)
  refine bo_aload_n hx dL_663 rfl 1 rfl ?_
  refine bo_aload_n hx dL_664 rfl 3 rfl ?_
  refine bo_iload_n hx dL_665 rfl 0 rfl ?_
  refine bo_iconst (v := 1) hx dL_666 (by decide) ?_
  refine bo_iadd hx dL_667 ?_
  refine bo_sld hx hs hin1 dL_668 ?_
  refine bo_goW (z := false) hx (fun rr hh => bo_runV (As := [.int (xs (i + 1).toNatClampNeg)]) (S := [.int (r0.1)]) hx dL_669 lk_L_91 mi_X11_when bo_o_135 rfl rfl (kX11_when (bo_l x) (bo_g x) hx.inj r0.2 (xs (i + 1).toNatClampNeg) rr hh) ⟨by decide, by decide⟩ rfl rfl (Nat.le_of_ble_eq_true rfl)) (fun r1 _ => ?_)
  exact bo_icmp_eq hx 1179 dL_672 (by decide) (bo_arr (fun h => h)) (fun _ h => by cases h)
noncomputable def lS_19 (σ : bo_M) (p q : Int32) : Option bo_M := (mX10_hour σ p).bind fun r0 => (mX11_hour r0.2 p).bind fun r1 => if r0.1 = r1.1 then some r1.2 else none
theorem lC_19 (hx : bo_OK x cL "BellRopeLaw" 4 9 320) (hs : sc x b n xs) (hin1 : vp_in (i + 1) n) (hin2 : vp_in (i + 2) n) : bo_D x 677 (lawL x b i) [] σ (lS_19 σ (xs (i + 1).toNatClampNeg) (xs (i + 2).toNatClampNeg)) (fun σ' => bo_N x 1179 (lawL x b i) [] σ') := by
  unfold lS_19
  refine bo_aload_n hx dL_677 rfl 2 rfl ?_
  refine bo_aload_n hx dL_678 rfl 3 rfl ?_
  refine bo_iload_n hx dL_679 rfl 0 rfl ?_
  refine bo_iconst (v := 1) hx dL_680 (by decide) ?_
  refine bo_iadd hx dL_681 ?_
  refine bo_sld hx hs hin1 dL_682 ?_
  refine bo_goW (z := false) hx (fun rr hh => bo_runV (As := [.int (xs (i + 1).toNatClampNeg)]) (S := []) hx dL_683 lk_L_92 mi_X10_hour bo_o_0 rfl rfl (kX10_hour (bo_l x) (bo_g x) hx.inj σ (xs (i + 1).toNatClampNeg) rr hh) ⟨by decide, by decide⟩ rfl rfl (Nat.le_of_ble_eq_true rfl)) (fun r0 _ => ?_)
  refine bo_aload_n hx dL_686 rfl 1 rfl ?_
  refine bo_aload_n hx dL_687 rfl 3 rfl ?_
  refine bo_iload_n hx dL_688 rfl 0 rfl ?_
  refine bo_iconst (v := 1) hx dL_689 (by decide) ?_
  refine bo_iadd hx dL_690 ?_
  refine bo_sld hx hs hin1 dL_691 ?_
  refine bo_goW (z := false) hx (fun rr hh => bo_runV (As := [.int (xs (i + 1).toNatClampNeg)]) (S := [.int (r0.1)]) hx dL_692 lk_L_95 mi_X11_hour bo_o_135 rfl rfl (kX11_hour (bo_l x) (bo_g x) hx.inj r0.2 (xs (i + 1).toNatClampNeg) rr hh) ⟨by decide, by decide⟩ rfl rfl (Nat.le_of_ble_eq_true rfl)) (fun r1 _ => ?_)
  exact bo_icmp_eq hx 1179 dL_695 (by decide) (bo_arr (fun h => h)) (fun _ h => by cases h)
noncomputable def lS_20 (σ : bo_M) (p q : Int32) : Option bo_M := (mX10_noon σ).bind fun r0 => (mX11_noon r0.2).bind fun r1 => if r0.1 = r1.1 then some r1.2 else none
theorem lC_20 (hx : bo_OK x cL "BellRopeLaw" 4 9 320) (hs : sc x b n xs) (hin1 : vp_in (i + 1) n) (hin2 : vp_in (i + 2) n) : bo_D x 700 (lawL x b i) [] σ (lS_20 σ (xs (i + 1).toNatClampNeg) (xs (i + 2).toNatClampNeg)) (fun σ' => bo_N x 1179 (lawL x b i) [] σ') := by
  unfold lS_20
  refine bo_aload_n hx dL_700 rfl 2 rfl ?_
  refine bo_goW (z := false) hx (fun rr hh => bo_runV (As := []) (S := []) hx dL_701 lk_L_96 mi_X10_noon bo_o_0 rfl rfl (kX10_noon (bo_l x) (bo_g x) hx.inj σ rr hh) ⟨by decide, by decide⟩ rfl rfl (Nat.le_of_ble_eq_true rfl)) (fun r0 _ => ?_)
  refine bo_aload_n hx dL_704 rfl 1 rfl ?_
  refine bo_goW (z := false) hx (fun rr hh => bo_runV (As := []) (S := [.int (r0.1)]) hx dL_705 lk_L_99 mi_X11_noon bo_o_135 rfl rfl (kX11_noon (bo_l x) (bo_g x) hx.inj r0.2 rr hh) ⟨by decide, by decide⟩ rfl rfl (Nat.le_of_ble_eq_true rfl)) (fun r1 _ => ?_)
  exact bo_icmp_eq hx 1179 dL_708 (by decide) (bo_arr (fun h => h)) (fun _ h => by cases h)
noncomputable def lS_21 (σ : bo_M) (p q : Int32) : Option bo_M := (mX10_late σ p).bind fun r0 => (mX11_late r0.2 p).bind fun r1 => if r0.1 = r1.1 then some r1.2 else none
theorem lC_21 (hx : bo_OK x cL "BellRopeLaw" 4 9 320) (hs : sc x b n xs) (hin1 : vp_in (i + 1) n) (hin2 : vp_in (i + 2) n) : bo_D x 713 (lawL x b i) [] σ (lS_21 σ (xs (i + 1).toNatClampNeg) (xs (i + 2).toNatClampNeg)) (fun σ' => bo_N x 1179 (lawL x b i) [] σ') := by
  unfold lS_21
  refine bo_aload_n hx dL_713 rfl 2 rfl ?_
  refine bo_aload_n hx dL_714 rfl 3 rfl ?_
  refine bo_iload_n hx dL_715 rfl 0 rfl ?_
  refine bo_iconst (v := 1) hx dL_716 (by decide) ?_
  refine bo_iadd hx dL_717 ?_
  refine bo_sld hx hs hin1 dL_718 ?_
  refine bo_goW (z := false) hx (fun rr hh => bo_runV (As := [.int (xs (i + 1).toNatClampNeg)]) (S := []) hx dL_719 lk_L_100 mi_X10_late bo_o_0 rfl rfl (kX10_late (bo_l x) (bo_g x) hx.inj σ (xs (i + 1).toNatClampNeg) rr hh) ⟨by decide, by decide⟩ rfl rfl (Nat.le_of_ble_eq_true rfl)) (fun r0 _ => ?_)
  refine bo_aload_n hx dL_722 rfl 1 rfl ?_
  refine bo_aload_n hx dL_723 rfl 3 rfl ?_
  refine bo_iload_n hx dL_724 rfl 0 rfl ?_
  refine bo_iconst (v := 1) hx dL_725 (by decide) ?_
  refine bo_iadd hx dL_726 ?_
  refine bo_sld hx hs hin1 dL_727 ?_
  refine bo_goW (z := false) hx (fun rr hh => bo_runV (As := [.int (xs (i + 1).toNatClampNeg)]) (S := [.int (r0.1)]) hx dL_728 lk_L_103 mi_X11_late bo_o_135 rfl rfl (kX11_late (bo_l x) (bo_g x) hx.inj r0.2 (xs (i + 1).toNatClampNeg) rr hh) ⟨by decide, by decide⟩ rfl rfl (Nat.le_of_ble_eq_true rfl)) (fun r1 _ => ?_)
  exact bo_icmp_eq hx 1179 dL_731 (by decide) (bo_arr (fun h => h)) (fun _ h => by cases h)
noncomputable def lS_22 (σ : bo_M) (p q : Int32) : Option bo_M := (mX10_best σ p).bind fun r0 => (mX11_best r0.2 p).bind fun r1 => if r0.1 = r1.1 then some r1.2 else none
theorem lC_22 (hx : bo_OK x cL "BellRopeLaw" 4 9 320) (hs : sc x b n xs) (hin1 : vp_in (i + 1) n) (hin2 : vp_in (i + 2) n) : bo_D x 736 (lawL x b i) [] σ (lS_22 σ (xs (i + 1).toNatClampNeg) (xs (i + 2).toNatClampNeg)) (fun σ' => bo_N x 1179 (lawL x b i) [] σ') := by
  unfold lS_22
  refine bo_aload_n hx dL_736 rfl 2 rfl ?_
  refine bo_aload_n hx dL_737 rfl 3 rfl ?_
  refine bo_iload_n hx dL_738 rfl 0 rfl ?_
  refine bo_iconst (v := 1) hx dL_739 (by decide) ?_
  refine bo_iadd hx dL_740 ?_
  refine bo_sld hx hs hin1 dL_741 ?_
  refine bo_goW (z := false) hx (fun rr hh => bo_runV (As := [.int (xs (i + 1).toNatClampNeg)]) (S := []) hx dL_742 lk_L_104 mi_X10_best bo_o_0 rfl rfl (kX10_best (bo_l x) (bo_g x) hx.inj σ (xs (i + 1).toNatClampNeg) rr hh) ⟨by decide, by decide⟩ rfl rfl (Nat.le_of_ble_eq_true rfl)) (fun r0 _ => ?_)
  refine bo_aload_n hx dL_745 rfl 1 rfl ?_
  refine bo_aload_n hx dL_746 rfl 3 rfl ?_
  refine bo_iload_n hx dL_747 rfl 0 rfl ?_
  refine bo_iconst (v := 1) hx dL_748 (by decide) ?_
  refine bo_iadd hx dL_749 ?_
  refine bo_sld hx hs hin1 dL_750 ?_
  refine bo_goW (z := false) hx (fun rr hh => bo_runV (As := [.int (xs (i + 1).toNatClampNeg)]) (S := [.int (r0.1)]) hx dL_751 lk_L_107 mi_X11_best bo_o_135 rfl rfl (kX11_best (bo_l x) (bo_g x) hx.inj r0.2 (xs (i + 1).toNatClampNeg) rr hh) ⟨by decide, by decide⟩ rfl rfl (Nat.le_of_ble_eq_true rfl)) (fun r1 _ => ?_)
  exact bo_icmp_eq hx 1179 dL_754 (by decide) (bo_arr (fun h => h)) (fun _ h => by cases h)
noncomputable def lS_23 (σ : bo_M) (p q : Int32) : Option bo_M := (mX10_alone σ p).bind fun r0 => (mX11_alone r0.2 p).bind fun r1 => if r0.1 = r1.1 then some r1.2 else none
theorem lC_23 (hx : bo_OK x cL "BellRopeLaw" 4 9 320) (hs : sc x b n xs) (hin1 : vp_in (i + 1) n) (hin2 : vp_in (i + 2) n) : bo_D x 759 (lawL x b i) [] σ (lS_23 σ (xs (i + 1).toNatClampNeg) (xs (i + 2).toNatClampNeg)) (fun σ' => bo_N x 1179 (lawL x b i) [] σ') := by
  unfold lS_23
  refine bo_aload_n hx dL_759 rfl 2 rfl ?_
  refine bo_aload_n hx dL_760 rfl 3 rfl ?_
  refine bo_iload_n hx dL_761 rfl 0 rfl ?_
  refine bo_iconst (v := 1) hx dL_762 (by decide) ?_
  refine bo_iadd hx dL_763 ?_
  refine bo_sld hx hs hin1 dL_764 ?_
  refine bo_goW (z := false) hx (fun rr hh => bo_runV (As := [.int (xs (i + 1).toNatClampNeg)]) (S := []) hx dL_765 lk_L_108 mi_X10_alone bo_o_0 rfl rfl (kX10_alone (bo_l x) (bo_g x) hx.inj σ (xs (i + 1).toNatClampNeg) rr hh) ⟨by decide, by decide⟩ rfl rfl (Nat.le_of_ble_eq_true rfl)) (fun r0 _ => ?_)
  refine bo_aload_n hx dL_768 rfl 1 rfl ?_
  refine bo_aload_n hx dL_769 rfl 3 rfl ?_
  refine bo_iload_n hx dL_770 rfl 0 rfl ?_
  refine bo_iconst (v := 1) hx dL_771 (by decide) ?_
  refine bo_iadd hx dL_772 ?_
  refine bo_sld hx hs hin1 dL_773 ?_
  refine bo_goW (z := false) hx (fun rr hh => bo_runV (As := [.int (xs (i + 1).toNatClampNeg)]) (S := [.int (r0.1)]) hx dL_774 lk_L_111 mi_X11_alone bo_o_135 rfl rfl (kX11_alone (bo_l x) (bo_g x) hx.inj r0.2 (xs (i + 1).toNatClampNeg) rr hh) ⟨by decide, by decide⟩ rfl rfl (Nat.le_of_ble_eq_true rfl)) (fun r1 _ => ?_)
  exact bo_icmp_eq hx 1179 dL_777 (by decide) (bo_arr (fun h => h)) (fun _ h => by cases h)
noncomputable def lS_24 (σ : bo_M) (p q : Int32) : Option bo_M := (mX10_given σ p).bind fun r0 => (mX11_given r0.2 p).bind fun r1 => if r0.1 = r1.1 then some r1.2 else none
theorem lC_24 (hx : bo_OK x cL "BellRopeLaw" 4 9 320) (hs : sc x b n xs) (hin1 : vp_in (i + 1) n) (hin2 : vp_in (i + 2) n) : bo_D x 782 (lawL x b i) [] σ (lS_24 σ (xs (i + 1).toNatClampNeg) (xs (i + 2).toNatClampNeg)) (fun σ' => bo_N x 1179 (lawL x b i) [] σ') := by
  unfold lS_24
  refine bo_aload_n hx dL_782 rfl 2 rfl ?_
  refine bo_aload_n hx dL_783 rfl 3 rfl ?_
  refine bo_iload_n hx dL_784 rfl 0 rfl ?_
  refine bo_iconst (v := 1) hx dL_785 (by decide) ?_
  refine bo_iadd hx dL_786 ?_
  refine bo_sld hx hs hin1 dL_787 ?_
  refine bo_goW (z := false) hx (fun rr hh => bo_runV (As := [.int (xs (i + 1).toNatClampNeg)]) (S := []) hx dL_788 lk_L_112 mi_X10_given bo_o_0 rfl rfl (kX10_given (bo_l x) (bo_g x) hx.inj σ (xs (i + 1).toNatClampNeg) rr hh) ⟨by decide, by decide⟩ rfl rfl (Nat.le_of_ble_eq_true rfl)) (fun r0 _ => ?_)
  refine bo_aload_n hx dL_791 rfl 1 rfl ?_
  refine bo_aload_n hx dL_792 rfl 3 rfl ?_
  refine bo_iload_n hx dL_793 rfl 0 rfl ?_
  refine bo_iconst (v := 1) hx dL_794 (by decide) ?_
  refine bo_iadd hx dL_795 ?_
  refine bo_sld hx hs hin1 dL_796 ?_
  refine bo_goW (z := false) hx (fun rr hh => bo_runV (As := [.int (xs (i + 1).toNatClampNeg)]) (S := [.int (r0.1)]) hx dL_797 lk_L_115 mi_X11_given bo_o_135 rfl rfl (kX11_given (bo_l x) (bo_g x) hx.inj r0.2 (xs (i + 1).toNatClampNeg) rr hh) ⟨by decide, by decide⟩ rfl rfl (Nat.le_of_ble_eq_true rfl)) (fun r1 _ => ?_)
  exact bo_icmp_eq hx 1179 dL_800 (by decide) (bo_arr (fun h => h)) (fun _ h => by cases h)
noncomputable def lS_25 (σ : bo_M) (p q : Int32) : Option bo_M := (mX10_mistaken σ).bind fun r0 => (mX11_mistaken σ).bind fun r1 => if r0 = r1 then some σ else none
theorem lC_25 (hx : bo_OK x cL "BellRopeLaw" 4 9 320) (hs : sc x b n xs) (hin1 : vp_in (i + 1) n) (hin2 : vp_in (i + 2) n) : bo_D x 805 (lawL x b i) [] σ (lS_25 σ (xs (i + 1).toNatClampNeg) (xs (i + 2).toNatClampNeg)) (fun σ' => bo_N x 1179 (lawL x b i) [] σ') := by
  unfold lS_25
  refine bo_aload_n hx dL_805 rfl 2 rfl ?_
  refine bo_goR (z := false) hx (fun rr hh => bo_runV (As := []) (S := []) hx dL_806 lk_L_116 mi_X10_mistaken bo_o_0 rfl rfl (kX10_mistaken (bo_l x) (bo_g x) hx.inj σ rr hh) ⟨by decide, by decide⟩ rfl rfl (Nat.le_of_ble_eq_true rfl)) (fun r0 _ => ?_)
  refine bo_aload_n hx dL_809 rfl 1 rfl ?_
  refine bo_goR (z := false) hx (fun rr hh => bo_runV (As := []) (S := [.int r0]) hx dL_810 lk_L_119 mi_X11_mistaken bo_o_135 rfl rfl (kX11_mistaken (bo_l x) (bo_g x) hx.inj σ rr hh) ⟨by decide, by decide⟩ rfl rfl (Nat.le_of_ble_eq_true rfl)) (fun r1 _ => ?_)
  exact bo_icmp_eq hx 1179 dL_813 (by decide) (bo_arr (fun h => h)) (fun _ h => by cases h)
noncomputable def lS_26 (σ : bo_M) (p q : Int32) : Option bo_M := (mX10_vespers σ p q).bind fun r0 => (mX11_vespers σ p q).bind fun r1 => if r0 = r1 then some σ else none
theorem lC_26 (hx : bo_OK x cL "BellRopeLaw" 4 9 320) (hs : sc x b n xs) (hin1 : vp_in (i + 1) n) (hin2 : vp_in (i + 2) n) : bo_D x 818 (lawL x b i) [] σ (lS_26 σ (xs (i + 1).toNatClampNeg) (xs (i + 2).toNatClampNeg)) (fun σ' => bo_N x 1179 (lawL x b i) [] σ') := by
  unfold lS_26
  refine bo_aload_n hx dL_818 rfl 2 rfl ?_
  refine bo_aload_n hx dL_819 rfl 3 rfl ?_
  refine bo_iload_n hx dL_820 rfl 0 rfl ?_
  refine bo_iconst (v := 1) hx dL_821 (by decide) ?_
  refine bo_iadd hx dL_822 ?_
  refine bo_sld hx hs hin1 dL_823 ?_
  refine bo_aload_n hx dL_824 rfl 3 rfl ?_
  refine bo_iload_n hx dL_825 rfl 0 rfl ?_
  refine bo_iconst (v := 2) hx dL_826 (by decide) ?_
  refine bo_iadd hx dL_827 ?_
  refine bo_sld hx hs hin2 dL_828 ?_
  refine bo_goR (z := false) hx (fun rr hh => bo_runV (As := [.int (xs (i + 1).toNatClampNeg), .int (xs (i + 2).toNatClampNeg)]) (S := []) hx dL_829 lk_L_120 mi_X10_vespers bo_o_0 rfl rfl (kX10_vespers (bo_l x) (bo_g x) hx.inj σ (xs (i + 1).toNatClampNeg) (xs (i + 2).toNatClampNeg) rr hh) ⟨by decide, by decide⟩ rfl rfl (Nat.le_of_ble_eq_true rfl)) (fun r0 _ => ?_)
  refine bo_aload_n hx dL_832 rfl 1 rfl ?_
  refine bo_aload_n hx dL_833 rfl 3 rfl ?_
  refine bo_iload_n hx dL_834 rfl 0 rfl ?_
  refine bo_iconst (v := 1) hx dL_835 (by decide) ?_
  refine bo_iadd hx dL_836 ?_
  refine bo_sld hx hs hin1 dL_837 ?_
  refine bo_aload_n hx dL_838 rfl 3 rfl ?_
  refine bo_iload_n hx dL_839 rfl 0 rfl ?_
  refine bo_iconst (v := 2) hx dL_840 (by decide) ?_
  refine bo_iadd hx dL_841 ?_
  refine bo_sld hx hs hin2 dL_842 ?_
  refine bo_goR (z := false) hx (fun rr hh => bo_runV (As := [.int (xs (i + 1).toNatClampNeg), .int (xs (i + 2).toNatClampNeg)]) (S := [.int r0]) hx dL_843 lk_L_123 mi_X11_vespers bo_o_135 rfl rfl (kX11_vespers (bo_l x) (bo_g x) hx.inj σ (xs (i + 1).toNatClampNeg) (xs (i + 2).toNatClampNeg) rr hh) ⟨by decide, by decide⟩ rfl rfl (Nat.le_of_ble_eq_true rfl)) (fun r1 _ => ?_)
  exact bo_icmp_eq hx 1179 dL_846 (by decide) (bo_arr (fun h => h)) (fun _ h => by cases h)
noncomputable def lS_27 (σ : bo_M) (p q : Int32) : Option bo_M := (mX10_ship σ p).bind fun r0 => (mX11_ship r0.2 p).bind fun r1 => if r0.1 = r1.1 then some r1.2 else none
theorem lC_27 (hx : bo_OK x cL "BellRopeLaw" 4 9 320) (hs : sc x b n xs) (hin1 : vp_in (i + 1) n) (hin2 : vp_in (i + 2) n) : bo_D x 851 (lawL x b i) [] σ (lS_27 σ (xs (i + 1).toNatClampNeg) (xs (i + 2).toNatClampNeg)) (fun σ' => bo_N x 1179 (lawL x b i) [] σ') := by
  unfold lS_27
  refine bo_aload_n hx dL_851 rfl 2 rfl ?_
  refine bo_aload_n hx dL_852 rfl 3 rfl ?_
  refine bo_iload_n hx dL_853 rfl 0 rfl ?_
  refine bo_iconst (v := 1) hx dL_854 (by decide) ?_
  refine bo_iadd hx dL_855 ?_
  refine bo_sld hx hs hin1 dL_856 ?_
  refine bo_goW (z := false) hx (fun rr hh => bo_runV (As := [.int (xs (i + 1).toNatClampNeg)]) (S := []) hx dL_857 lk_L_124 mi_X10_ship bo_o_0 rfl rfl (kX10_ship (bo_l x) (bo_g x) hx.inj σ (xs (i + 1).toNatClampNeg) rr hh) ⟨by decide, by decide⟩ rfl rfl (Nat.le_of_ble_eq_true rfl)) (fun r0 _ => ?_)
  refine bo_aload_n hx dL_860 rfl 1 rfl ?_
  refine bo_aload_n hx dL_861 rfl 3 rfl ?_
  refine bo_iload_n hx dL_862 rfl 0 rfl ?_
  refine bo_iconst (v := 1) hx dL_863 (by decide) ?_
  refine bo_iadd hx dL_864 ?_
  refine bo_sld hx hs hin1 dL_865 ?_
  refine bo_goW (z := false) hx (fun rr hh => bo_runV (As := [.int (xs (i + 1).toNatClampNeg)]) (S := [.int (r0.1)]) hx dL_866 lk_L_127 mi_X11_ship bo_o_135 rfl rfl (kX11_ship (bo_l x) (bo_g x) hx.inj r0.2 (xs (i + 1).toNatClampNeg) rr hh) ⟨by decide, by decide⟩ rfl rfl (Nat.le_of_ble_eq_true rfl)) (fun r1 _ => ?_)
  exact bo_icmp_eq hx 1179 dL_869 (by decide) (bo_arr (fun h => h)) (fun _ h => by cases h)
noncomputable def lS_28 (σ : bo_M) (p q : Int32) : Option bo_M := (mX10_widows σ p).bind fun r0 => (mX11_widows σ p).bind fun r1 => if r0 = r1 then some σ else none
theorem lC_28 (hx : bo_OK x cL "BellRopeLaw" 4 9 320) (hs : sc x b n xs) (hin1 : vp_in (i + 1) n) (hin2 : vp_in (i + 2) n) : bo_D x 874 (lawL x b i) [] σ (lS_28 σ (xs (i + 1).toNatClampNeg) (xs (i + 2).toNatClampNeg)) (fun σ' => bo_N x 1179 (lawL x b i) [] σ') := by
  unfold lS_28
  refine bo_aload_n hx dL_874 rfl 2 rfl ?_
  refine bo_aload_n hx dL_875 rfl 3 rfl ?_
  refine bo_iload_n hx dL_876 rfl 0 rfl ?_
  refine bo_iconst (v := 1) hx dL_877 (by decide) ?_
  refine bo_iadd hx dL_878 ?_
  refine bo_sld hx hs hin1 dL_879 ?_
  refine bo_goR (z := false) hx (fun rr hh => bo_runV (As := [.int (xs (i + 1).toNatClampNeg)]) (S := []) hx dL_880 lk_L_128 mi_X10_widows bo_o_0 rfl rfl (kX10_widows (bo_l x) (bo_g x) hx.inj σ (xs (i + 1).toNatClampNeg) rr hh) ⟨by decide, by decide⟩ rfl rfl (Nat.le_of_ble_eq_true rfl)) (fun r0 _ => ?_)
  refine bo_aload_n hx dL_883 rfl 1 rfl ?_
  refine bo_aload_n hx dL_884 rfl 3 rfl ?_
  refine bo_iload_n hx dL_885 rfl 0 rfl ?_
  refine bo_iconst (v := 1) hx dL_886 (by decide) ?_
  refine bo_iadd hx dL_887 ?_
  refine bo_sld hx hs hin1 dL_888 ?_
  refine bo_goR (z := false) hx (fun rr hh => bo_runV (As := [.int (xs (i + 1).toNatClampNeg)]) (S := [.int r0]) hx dL_889 lk_L_131 mi_X11_widows bo_o_135 rfl rfl (kX11_widows (bo_l x) (bo_g x) hx.inj σ (xs (i + 1).toNatClampNeg) rr hh) ⟨by decide, by decide⟩ rfl rfl (Nat.le_of_ble_eq_true rfl)) (fun r1 _ => ?_)
  exact bo_icmp_eq hx 1179 dL_892 (by decide) (bo_arr (fun h => h)) (fun _ h => by cases h)
noncomputable def lS_29 (σ : bo_M) (p q : Int32) : Option bo_M := (mX10_odds σ p).bind fun r0 => (mX11_odds r0.2 p).bind fun r1 => if r0.1 = r1.1 then some r1.2 else none
theorem lC_29 (hx : bo_OK x cL "BellRopeLaw" 4 9 320) (hs : sc x b n xs) (hin1 : vp_in (i + 1) n) (hin2 : vp_in (i + 2) n) : bo_D x 897 (lawL x b i) [] σ (lS_29 σ (xs (i + 1).toNatClampNeg) (xs (i + 2).toNatClampNeg)) (fun σ' => bo_N x 1179 (lawL x b i) [] σ') := by
  unfold lS_29
  refine bo_aload_n hx dL_897 rfl 2 rfl ?_
  refine bo_aload_n hx dL_898 rfl 3 rfl ?_
  refine bo_iload_n hx dL_899 rfl 0 rfl ?_
  refine bo_iconst (v := 1) hx dL_900 (by decide) ?_
  refine bo_iadd hx dL_901 ?_
  refine bo_sld hx hs hin1 dL_902 ?_
  refine bo_goW (z := false) hx (fun rr hh => bo_runV (As := [.int (xs (i + 1).toNatClampNeg)]) (S := []) hx dL_903 lk_L_132 mi_X10_odds bo_o_0 rfl rfl (kX10_odds (bo_l x) (bo_g x) hx.inj σ (xs (i + 1).toNatClampNeg) rr hh) ⟨by decide, by decide⟩ rfl rfl (Nat.le_of_ble_eq_true rfl)) (fun r0 _ => ?_)
  refine bo_aload_n hx dL_906 rfl 1 rfl ?_
  refine bo_aload_n hx dL_907 rfl 3 rfl ?_
  refine bo_iload_n hx dL_908 rfl 0 rfl ?_
  refine bo_iconst (v := 1) hx dL_909 (by decide) ?_
  refine bo_iadd hx dL_910 ?_
  refine bo_sld hx hs hin1 dL_911 ?_
  refine bo_goW (z := false) hx (fun rr hh => bo_runV (As := [.int (xs (i + 1).toNatClampNeg)]) (S := [.int (r0.1)]) hx dL_912 lk_L_135 mi_X11_odds bo_o_135 rfl rfl (kX11_odds (bo_l x) (bo_g x) hx.inj r0.2 (xs (i + 1).toNatClampNeg) rr hh) ⟨by decide, by decide⟩ rfl rfl (Nat.le_of_ble_eq_true rfl)) (fun r1 _ => ?_)
  exact bo_icmp_eq hx 1179 dL_915 (by decide) (bo_arr (fun h => h)) (fun _ h => by cases h)
noncomputable def lS_30 (σ : bo_M) (p q : Int32) : Option bo_M := (mX10_most σ).bind fun r0 => (mX11_most σ).bind fun r1 => if r0 = r1 then some σ else none
theorem lC_30 (hx : bo_OK x cL "BellRopeLaw" 4 9 320) (hs : sc x b n xs) (hin1 : vp_in (i + 1) n) (hin2 : vp_in (i + 2) n) : bo_D x 920 (lawL x b i) [] σ (lS_30 σ (xs (i + 1).toNatClampNeg) (xs (i + 2).toNatClampNeg)) (fun σ' => bo_N x 1179 (lawL x b i) [] σ') := by
  unfold lS_30
  refine bo_aload_n hx dL_920 rfl 2 rfl ?_
  refine bo_goR (z := false) hx (fun rr hh => bo_runV (As := []) (S := []) hx dL_921 lk_L_136 mi_X10_most bo_o_0 rfl rfl (kX10_most (bo_l x) (bo_g x) hx.inj σ rr hh) ⟨by decide, by decide⟩ rfl rfl (Nat.le_of_ble_eq_true rfl)) (fun r0 _ => ?_)
  refine bo_aload_n hx dL_924 rfl 1 rfl ?_
  refine bo_goR (z := false) hx (fun rr hh => bo_runV (As := []) (S := [.int r0]) hx dL_925 lk_L_139 mi_X11_most bo_o_135 rfl rfl (kX11_most (bo_l x) (bo_g x) hx.inj σ rr hh) ⟨by decide, by decide⟩ rfl rfl (Nat.le_of_ble_eq_true rfl)) (fun r1 _ => ?_)
  exact bo_icmp_eq hx 1179 dL_928 (by decide) (bo_arr (fun h => h)) (fun _ h => by cases h)
noncomputable def lS_31 (σ : bo_M) (p q : Int32) : Option bo_M := (mX10_round σ).bind fun r0 => (mX11_round σ).bind fun r1 => if r0 = r1 then some σ else none
theorem lC_31 (hx : bo_OK x cL "BellRopeLaw" 4 9 320) (hs : sc x b n xs) (hin1 : vp_in (i + 1) n) (hin2 : vp_in (i + 2) n) : bo_D x 933 (lawL x b i) [] σ (lS_31 σ (xs (i + 1).toNatClampNeg) (xs (i + 2).toNatClampNeg)) (fun σ' => bo_N x 1179 (lawL x b i) [] σ') := by
  unfold lS_31
  refine bo_aload_n hx dL_933 rfl 2 rfl ?_
  refine bo_goR (z := false) hx (fun rr hh => bo_runV (As := []) (S := []) hx dL_934 lk_L_140 mi_X10_round bo_o_0 rfl rfl (kX10_round (bo_l x) (bo_g x) hx.inj σ rr hh) ⟨by decide, by decide⟩ rfl rfl (Nat.le_of_ble_eq_true rfl)) (fun r0 _ => ?_)
  refine bo_aload_n hx dL_937 rfl 1 rfl ?_
  refine bo_goR (z := false) hx (fun rr hh => bo_runV (As := []) (S := [.int r0]) hx dL_938 lk_L_143 mi_X11_round bo_o_135 rfl rfl (kX11_round (bo_l x) (bo_g x) hx.inj σ rr hh) ⟨by decide, by decide⟩ rfl rfl (Nat.le_of_ble_eq_true rfl)) (fun r1 _ => ?_)
  exact bo_icmp_eq hx 1179 dL_941 (by decide) (bo_arr (fun h => h)) (fun _ h => by cases h)
noncomputable def lS_32 (σ : bo_M) (p q : Int32) : Option bo_M := (mX10_share σ p).bind fun r0 => (mX11_share σ p).bind fun r1 => if r0 = r1 then some σ else none
theorem lC_32 (hx : bo_OK x cL "BellRopeLaw" 4 9 320) (hs : sc x b n xs) (hin1 : vp_in (i + 1) n) (hin2 : vp_in (i + 2) n) : bo_D x 946 (lawL x b i) [] σ (lS_32 σ (xs (i + 1).toNatClampNeg) (xs (i + 2).toNatClampNeg)) (fun σ' => bo_N x 1179 (lawL x b i) [] σ') := by
  unfold lS_32
  refine bo_aload_n hx dL_946 rfl 2 rfl ?_
  refine bo_aload_n hx dL_947 rfl 3 rfl ?_
  refine bo_iload_n hx dL_948 rfl 0 rfl ?_
  refine bo_iconst (v := 1) hx dL_949 (by decide) ?_
  refine bo_iadd hx dL_950 ?_
  refine bo_sld hx hs hin1 dL_951 ?_
  refine bo_goR (z := false) hx (fun rr hh => bo_runV (As := [.int (xs (i + 1).toNatClampNeg)]) (S := []) hx dL_952 lk_L_144 mi_X10_share bo_o_0 rfl rfl (kX10_share (bo_l x) (bo_g x) hx.inj σ (xs (i + 1).toNatClampNeg) rr hh) ⟨by decide, by decide⟩ rfl rfl (Nat.le_of_ble_eq_true rfl)) (fun r0 _ => ?_)
  refine bo_aload_n hx dL_955 rfl 1 rfl ?_
  refine bo_aload_n hx dL_956 rfl 3 rfl ?_
  refine bo_iload_n hx dL_957 rfl 0 rfl ?_
  refine bo_iconst (v := 1) hx dL_958 (by decide) ?_
  refine bo_iadd hx dL_959 ?_
  refine bo_sld hx hs hin1 dL_960 ?_
  refine bo_goR (z := false) hx (fun rr hh => bo_runV (As := [.int (xs (i + 1).toNatClampNeg)]) (S := [.int r0]) hx dL_961 lk_L_147 mi_X11_share bo_o_135 rfl rfl (kX11_share (bo_l x) (bo_g x) hx.inj σ (xs (i + 1).toNatClampNeg) rr hh) ⟨by decide, by decide⟩ rfl rfl (Nat.le_of_ble_eq_true rfl)) (fun r1 _ => ?_)
  exact bo_icmp_eq hx 1179 dL_964 (by decide) (bo_arr (fun h => h)) (fun _ h => by cases h)
noncomputable def lS_33 (σ : bo_M) (p q : Int32) : Option bo_M := (mX10_was σ p q).bind fun r0 => (mX11_was r0.2 p q).bind fun r1 => if r0.1 = r1.1 then some r1.2 else none
theorem lC_33 (hx : bo_OK x cL "BellRopeLaw" 4 9 320) (hs : sc x b n xs) (hin1 : vp_in (i + 1) n) (hin2 : vp_in (i + 2) n) : bo_D x 969 (lawL x b i) [] σ (lS_33 σ (xs (i + 1).toNatClampNeg) (xs (i + 2).toNatClampNeg)) (fun σ' => bo_N x 1179 (lawL x b i) [] σ') := by
  unfold lS_33
  refine bo_aload_n hx dL_969 rfl 2 rfl ?_
  refine bo_aload_n hx dL_970 rfl 3 rfl ?_
  refine bo_iload_n hx dL_971 rfl 0 rfl ?_
  refine bo_iconst (v := 1) hx dL_972 (by decide) ?_
  refine bo_iadd hx dL_973 ?_
  refine bo_sld hx hs hin1 dL_974 ?_
  refine bo_aload_n hx dL_975 rfl 3 rfl ?_
  refine bo_iload_n hx dL_976 rfl 0 rfl ?_
  refine bo_iconst (v := 2) hx dL_977 (by decide) ?_
  refine bo_iadd hx dL_978 ?_
  refine bo_sld hx hs hin2 dL_979 ?_
  refine bo_goW (z := false) hx (fun rr hh => bo_runV (As := [.int (xs (i + 1).toNatClampNeg), .int (xs (i + 2).toNatClampNeg)]) (S := []) hx dL_980 lk_L_148 mi_X10_was bo_o_0 rfl rfl (kX10_was (bo_l x) (bo_g x) hx.inj σ (xs (i + 1).toNatClampNeg) (xs (i + 2).toNatClampNeg) rr hh) ⟨by decide, by decide⟩ rfl rfl (Nat.le_of_ble_eq_true rfl)) (fun r0 _ => ?_)
  refine bo_aload_n hx dL_983 rfl 1 rfl ?_
  refine bo_aload_n hx dL_984 rfl 3 rfl ?_
  refine bo_iload_n hx dL_985 rfl 0 rfl ?_
  refine bo_iconst (v := 1) hx dL_986 (by decide) ?_
  refine bo_iadd hx dL_987 ?_
  refine bo_sld hx hs hin1 dL_988 ?_
  refine bo_aload_n hx dL_989 rfl 3 rfl ?_
  refine bo_iload_n hx dL_990 rfl 0 rfl ?_
  refine bo_iconst (v := 2) hx dL_991 (by decide) ?_
  refine bo_iadd hx dL_992 ?_
  refine bo_sld hx hs hin2 dL_993 ?_
  refine bo_goW (z := false) hx (fun rr hh => bo_runV (As := [.int (xs (i + 1).toNatClampNeg), .int (xs (i + 2).toNatClampNeg)]) (S := [.int (r0.1)]) hx dL_994 lk_L_151 mi_X11_was bo_o_135 rfl rfl (kX11_was (bo_l x) (bo_g x) hx.inj r0.2 (xs (i + 1).toNatClampNeg) (xs (i + 2).toNatClampNeg) rr hh) ⟨by decide, by decide⟩ rfl rfl (Nat.le_of_ble_eq_true rfl)) (fun r1 _ => ?_)
  exact bo_icmp_eq hx 1179 dL_997 (by decide) (bo_arr (fun h => h)) (fun _ h => by cases h)
noncomputable def lS_34 (σ : bo_M) (p q : Int32) : Option bo_M := (mX10_could σ p).bind fun r0 => (mX11_could r0.2 p).bind fun r1 => if r0.1 = r1 then some r0.2 else none
theorem lC_34 (hx : bo_OK x cL "BellRopeLaw" 4 9 320) (hs : sc x b n xs) (hin1 : vp_in (i + 1) n) (hin2 : vp_in (i + 2) n) : bo_D x 1002 (lawL x b i) [] σ (lS_34 σ (xs (i + 1).toNatClampNeg) (xs (i + 2).toNatClampNeg)) (fun σ' => bo_N x 1179 (lawL x b i) [] σ') := by
  unfold lS_34
  refine bo_aload_n hx dL_1002 rfl 2 rfl ?_
  refine bo_aload_n hx dL_1003 rfl 3 rfl ?_
  refine bo_iload_n hx dL_1004 rfl 0 rfl ?_
  refine bo_iconst (v := 1) hx dL_1005 (by decide) ?_
  refine bo_iadd hx dL_1006 ?_
  refine bo_sld hx hs hin1 dL_1007 ?_
  refine bo_goW (z := false) hx (fun rr hh => bo_runV (As := [.int (xs (i + 1).toNatClampNeg)]) (S := []) hx dL_1008 lk_L_152 mi_X10_could bo_o_0 rfl rfl (kX10_could (bo_l x) (bo_g x) hx.inj σ (xs (i + 1).toNatClampNeg) rr hh) ⟨by decide, by decide⟩ rfl rfl (Nat.le_of_ble_eq_true rfl)) (fun r0 _ => ?_)
  refine bo_aload_n hx dL_1011 rfl 1 rfl ?_
  refine bo_aload_n hx dL_1012 rfl 3 rfl ?_
  refine bo_iload_n hx dL_1013 rfl 0 rfl ?_
  refine bo_iconst (v := 1) hx dL_1014 (by decide) ?_
  refine bo_iadd hx dL_1015 ?_
  refine bo_sld hx hs hin1 dL_1016 ?_
  refine bo_goR (z := false) hx (fun rr hh => bo_runV (As := [.int (xs (i + 1).toNatClampNeg)]) (S := [.int (r0.1)]) hx dL_1017 lk_L_155 mi_X11_could bo_o_135 rfl rfl (kX11_could (bo_l x) (bo_g x) hx.inj r0.2 (xs (i + 1).toNatClampNeg) rr hh) ⟨by decide, by decide⟩ rfl rfl (Nat.le_of_ble_eq_true rfl)) (fun r1 _ => ?_)
  exact bo_icmp_eq hx 1179 dL_1020 (by decide) (bo_arr (fun h => h)) (fun _ h => by cases h)
noncomputable def lS_35 (σ : bo_M) (p q : Int32) : Option bo_M := (mX10_listen σ).bind fun r0 => (mX11_listen r0.2).bind fun r1 => if r0.1 = r1.1 then some r1.2 else none
theorem lC_35 (hx : bo_OK x cL "BellRopeLaw" 4 9 320) (hs : sc x b n xs) (hin1 : vp_in (i + 1) n) (hin2 : vp_in (i + 2) n) : bo_D x 1025 (lawL x b i) [] σ (lS_35 σ (xs (i + 1).toNatClampNeg) (xs (i + 2).toNatClampNeg)) (fun σ' => bo_N x 1179 (lawL x b i) [] σ') := by
  unfold lS_35
  refine bo_aload_n hx dL_1025 rfl 2 rfl ?_
  refine bo_goW (z := false) hx (fun rr hh => bo_runV (As := []) (S := []) hx dL_1026 lk_L_156 mi_X10_listen bo_o_0 rfl rfl (kX10_listen (bo_l x) (bo_g x) hx.inj σ rr hh) ⟨by decide, by decide⟩ rfl rfl (Nat.le_of_ble_eq_true rfl)) (fun r0 _ => ?_)
  refine bo_aload_n hx dL_1029 rfl 1 rfl ?_
  refine bo_goW (z := false) hx (fun rr hh => bo_runV (As := []) (S := [.int (r0.1)]) hx dL_1030 lk_L_159 mi_X11_listen bo_o_135 rfl rfl (kX11_listen (bo_l x) (bo_g x) hx.inj r0.2 rr hh) ⟨by decide, by decide⟩ rfl rfl (Nat.le_of_ble_eq_true rfl)) (fun r1 _ => ?_)
  exact bo_icmp_eq hx 1179 dL_1033 (by decide) (bo_arr (fun h => h)) (fun _ h => by cases h)
noncomputable def lS_36 (σ : bo_M) (p q : Int32) : Option bo_M := (mX10_muffled σ).bind fun r0 => (mX11_muffled σ).bind fun r1 => if r0 = r1 then some σ else none
theorem lC_36 (hx : bo_OK x cL "BellRopeLaw" 4 9 320) (hs : sc x b n xs) (hin1 : vp_in (i + 1) n) (hin2 : vp_in (i + 2) n) : bo_D x 1038 (lawL x b i) [] σ (lS_36 σ (xs (i + 1).toNatClampNeg) (xs (i + 2).toNatClampNeg)) (fun σ' => bo_N x 1179 (lawL x b i) [] σ') := by
  unfold lS_36
  refine bo_aload_n hx dL_1038 rfl 2 rfl ?_
  refine bo_goR (z := false) hx (fun rr hh => bo_runV (As := []) (S := []) hx dL_1039 lk_L_160 mi_X10_muffled bo_o_0 rfl rfl (kX10_muffled (bo_l x) (bo_g x) hx.inj σ rr hh) ⟨by decide, by decide⟩ rfl rfl (Nat.le_of_ble_eq_true rfl)) (fun r0 _ => ?_)
  refine bo_aload_n hx dL_1042 rfl 1 rfl ?_
  refine bo_goR (z := false) hx (fun rr hh => bo_runV (As := []) (S := [.int r0]) hx dL_1043 lk_L_163 mi_X11_muffled bo_o_135 rfl rfl (kX11_muffled (bo_l x) (bo_g x) hx.inj σ rr hh) ⟨by decide, by decide⟩ rfl rfl (Nat.le_of_ble_eq_true rfl)) (fun r1 _ => ?_)
  exact bo_icmp_eq hx 1179 dL_1046 (by decide) (bo_arr (fun h => h)) (fun _ h => by cases h)
noncomputable def lS_37 (σ : bo_M) (p q : Int32) : Option bo_M := (mX10_write σ p q).bind fun r0 => (mX11_write r0.2 p q).bind fun r1 => if r0.1 = r1.1 then some r1.2 else none
theorem lC_37 (hx : bo_OK x cL "BellRopeLaw" 4 9 320) (hs : sc x b n xs) (hin1 : vp_in (i + 1) n) (hin2 : vp_in (i + 2) n) : bo_D x 1051 (lawL x b i) [] σ (lS_37 σ (xs (i + 1).toNatClampNeg) (xs (i + 2).toNatClampNeg)) (fun σ' => bo_N x 1179 (lawL x b i) [] σ') := by
  unfold lS_37
  refine bo_aload_n hx dL_1051 rfl 2 rfl ?_
  refine bo_aload_n hx dL_1052 rfl 3 rfl ?_
  refine bo_iload_n hx dL_1053 rfl 0 rfl ?_
  refine bo_iconst (v := 1) hx dL_1054 (by decide) ?_
  refine bo_iadd hx dL_1055 ?_
  refine bo_sld hx hs hin1 dL_1056 ?_
  refine bo_aload_n hx dL_1057 rfl 3 rfl ?_
  refine bo_iload_n hx dL_1058 rfl 0 rfl ?_
  refine bo_iconst (v := 2) hx dL_1059 (by decide) ?_
  refine bo_iadd hx dL_1060 ?_
  refine bo_sld hx hs hin2 dL_1061 ?_
  refine bo_goW (z := false) hx (fun rr hh => bo_runV (As := [.int (xs (i + 1).toNatClampNeg), .int (xs (i + 2).toNatClampNeg)]) (S := []) hx dL_1062 lk_L_164 mi_X10_write bo_o_0 rfl rfl (kX10_write (bo_l x) (bo_g x) hx.inj σ (xs (i + 1).toNatClampNeg) (xs (i + 2).toNatClampNeg) rr hh) ⟨by decide, by decide⟩ rfl rfl (Nat.le_of_ble_eq_true rfl)) (fun r0 _ => ?_)
  refine bo_aload_n hx dL_1065 rfl 1 rfl ?_
  refine bo_aload_n hx dL_1066 rfl 3 rfl ?_
  refine bo_iload_n hx dL_1067 rfl 0 rfl ?_
  refine bo_iconst (v := 1) hx dL_1068 (by decide) ?_
  refine bo_iadd hx dL_1069 ?_
  refine bo_sld hx hs hin1 dL_1070 ?_
  refine bo_aload_n hx dL_1071 rfl 3 rfl ?_
  refine bo_iload_n hx dL_1072 rfl 0 rfl ?_
  refine bo_iconst (v := 2) hx dL_1073 (by decide) ?_
  refine bo_iadd hx dL_1074 ?_
  refine bo_sld hx hs hin2 dL_1075 ?_
  refine bo_goW (z := false) hx (fun rr hh => bo_runV (As := [.int (xs (i + 1).toNatClampNeg), .int (xs (i + 2).toNatClampNeg)]) (S := [.int (r0.1)]) hx dL_1076 lk_L_167 mi_X11_write bo_o_135 rfl rfl (kX11_write (bo_l x) (bo_g x) hx.inj r0.2 (xs (i + 1).toNatClampNeg) (xs (i + 2).toNatClampNeg) rr hh) ⟨by decide, by decide⟩ rfl rfl (Nat.le_of_ble_eq_true rfl)) (fun r1 _ => ?_)
  exact bo_icmp_eq hx 1179 dL_1079 (by decide) (bo_arr (fun h => h)) (fun _ h => by cases h)
noncomputable def lS_38 (σ : bo_M) (p q : Int32) : Option bo_M := (mX10_tear σ).bind fun r0 => (mX11_tear r0.2).bind fun r1 => if r0.1 = r1.1 then some r1.2 else none
theorem lC_38 (hx : bo_OK x cL "BellRopeLaw" 4 9 320) (hs : sc x b n xs) (hin1 : vp_in (i + 1) n) (hin2 : vp_in (i + 2) n) : bo_D x 1084 (lawL x b i) [] σ (lS_38 σ (xs (i + 1).toNatClampNeg) (xs (i + 2).toNatClampNeg)) (fun σ' => bo_N x 1179 (lawL x b i) [] σ') := by
  unfold lS_38
  refine bo_aload_n hx dL_1084 rfl 2 rfl ?_
  refine bo_goW (z := false) hx (fun rr hh => bo_runV (As := []) (S := []) hx dL_1085 lk_L_168 mi_X10_tear bo_o_0 rfl rfl (kX10_tear (bo_l x) (bo_g x) hx.inj σ rr hh) ⟨by decide, by decide⟩ rfl rfl (Nat.le_of_ble_eq_true rfl)) (fun r0 _ => ?_)
  refine bo_aload_n hx dL_1088 rfl 1 rfl ?_
  refine bo_goW (z := false) hx (fun rr hh => bo_runV (As := []) (S := [.int (r0.1)]) hx dL_1089 lk_L_171 mi_X11_tear bo_o_135 rfl rfl (kX11_tear (bo_l x) (bo_g x) hx.inj r0.2 rr hh) ⟨by decide, by decide⟩ rfl rfl (Nat.le_of_ble_eq_true rfl)) (fun r1 _ => ?_)
  exact bo_icmp_eq hx 1179 dL_1092 (by decide) (bo_arr (fun h => h)) (fun _ h => by cases h)
noncomputable def lS_39 (σ : bo_M) (p q : Int32) : Option bo_M := (mX10_judge σ).bind fun r0 => (mX11_judge σ).bind fun r1 => if r0 = r1 then some σ else none
theorem lC_39 (hx : bo_OK x cL "BellRopeLaw" 4 9 320) (hs : sc x b n xs) (hin1 : vp_in (i + 1) n) (hin2 : vp_in (i + 2) n) : bo_D x 1097 (lawL x b i) [] σ (lS_39 σ (xs (i + 1).toNatClampNeg) (xs (i + 2).toNatClampNeg)) (fun σ' => bo_N x 1179 (lawL x b i) [] σ') := by
  unfold lS_39
  refine bo_aload_n hx dL_1097 rfl 2 rfl ?_
  refine bo_goR (z := false) hx (fun rr hh => bo_runV (As := []) (S := []) hx dL_1098 lk_L_172 mi_X10_judge bo_o_0 rfl rfl (kX10_judge (bo_l x) (bo_g x) hx.inj σ rr hh) ⟨by decide, by decide⟩ rfl rfl (Nat.le_of_ble_eq_true rfl)) (fun r0 _ => ?_)
  refine bo_aload_n hx dL_1101 rfl 1 rfl ?_
  refine bo_goR (z := false) hx (fun rr hh => bo_runV (As := []) (S := [.int r0]) hx dL_1102 lk_L_175 mi_X11_judge bo_o_135 rfl rfl (kX11_judge (bo_l x) (bo_g x) hx.inj σ rr hh) ⟨by decide, by decide⟩ rfl rfl (Nat.le_of_ble_eq_true rfl)) (fun r1 _ => ?_)
  exact bo_icmp_eq hx 1179 dL_1105 (by decide) (bo_arr (fun h => h)) (fun _ h => by cases h)
noncomputable def lS_40 (σ : bo_M) (p q : Int32) : Option bo_M := (mX10_seed σ p).bind fun r0 => (mX11_seed r0.2 p).bind fun r1 => if r0.1 = r1.1 then some r1.2 else none
theorem lC_40 (hx : bo_OK x cL "BellRopeLaw" 4 9 320) (hs : sc x b n xs) (hin1 : vp_in (i + 1) n) (hin2 : vp_in (i + 2) n) : bo_D x 1110 (lawL x b i) [] σ (lS_40 σ (xs (i + 1).toNatClampNeg) (xs (i + 2).toNatClampNeg)) (fun σ' => bo_N x 1179 (lawL x b i) [] σ') := by
  unfold lS_40
  refine bo_aload_n hx dL_1110 rfl 2 rfl ?_
  refine bo_aload_n hx dL_1111 rfl 3 rfl ?_
  refine bo_iload_n hx dL_1112 rfl 0 rfl ?_
  refine bo_iconst (v := 1) hx dL_1113 (by decide) ?_
  refine bo_iadd hx dL_1114 ?_
  refine bo_sld hx hs hin1 dL_1115 ?_
  refine bo_goW (z := false) hx (fun rr hh => bo_runV (As := [.int (xs (i + 1).toNatClampNeg)]) (S := []) hx dL_1116 lk_L_176 mi_X10_seed bo_o_0 rfl rfl (kX10_seed (bo_l x) (bo_g x) hx.inj σ (xs (i + 1).toNatClampNeg) rr hh) ⟨by decide, by decide⟩ rfl rfl (Nat.le_of_ble_eq_true rfl)) (fun r0 _ => ?_)
  refine bo_aload_n hx dL_1119 rfl 1 rfl ?_
  refine bo_aload_n hx dL_1120 rfl 3 rfl ?_
  refine bo_iload_n hx dL_1121 rfl 0 rfl ?_
  refine bo_iconst (v := 1) hx dL_1122 (by decide) ?_
  refine bo_iadd hx dL_1123 ?_
  refine bo_sld hx hs hin1 dL_1124 ?_
  refine bo_goW (z := false) hx (fun rr hh => bo_runV (As := [.int (xs (i + 1).toNatClampNeg)]) (S := [.int (r0.1)]) hx dL_1125 lk_L_179 mi_X11_seed bo_o_135 rfl rfl (kX11_seed (bo_l x) (bo_g x) hx.inj r0.2 (xs (i + 1).toNatClampNeg) rr hh) ⟨by decide, by decide⟩ rfl rfl (Nat.le_of_ble_eq_true rfl)) (fun r1 _ => ?_)
  exact bo_icmp_eq hx 1179 dL_1128 (by decide) (bo_arr (fun h => h)) (fun _ h => by cases h)
noncomputable def lS_41 (σ : bo_M) (p q : Int32) : Option bo_M := (mX10_keep σ p).bind fun r0 => (mX11_keep r0.2 p).bind fun r1 => if r0.1 = r1.1 then some r1.2 else none
theorem lC_41 (hx : bo_OK x cL "BellRopeLaw" 4 9 320) (hs : sc x b n xs) (hin1 : vp_in (i + 1) n) (hin2 : vp_in (i + 2) n) : bo_D x 1133 (lawL x b i) [] σ (lS_41 σ (xs (i + 1).toNatClampNeg) (xs (i + 2).toNatClampNeg)) (fun σ' => bo_N x 1179 (lawL x b i) [] σ') := by
  unfold lS_41
  refine bo_aload_n hx dL_1133 rfl 2 rfl ?_
  refine bo_aload_n hx dL_1134 rfl 3 rfl ?_
  refine bo_iload_n hx dL_1135 rfl 0 rfl ?_
  refine bo_iconst (v := 1) hx dL_1136 (by decide) ?_
  refine bo_iadd hx dL_1137 ?_
  refine bo_sld hx hs hin1 dL_1138 ?_
  refine bo_goW (z := false) hx (fun rr hh => bo_runV (As := [.int (xs (i + 1).toNatClampNeg)]) (S := []) hx dL_1139 lk_L_180 mi_X10_keep bo_o_0 rfl rfl (kX10_keep (bo_l x) (bo_g x) hx.inj σ (xs (i + 1).toNatClampNeg) rr hh) ⟨by decide, by decide⟩ rfl rfl (Nat.le_of_ble_eq_true rfl)) (fun r0 _ => ?_)
  refine bo_aload_n hx dL_1142 rfl 1 rfl ?_
  refine bo_aload_n hx dL_1143 rfl 3 rfl ?_
  refine bo_iload_n hx dL_1144 rfl 0 rfl ?_
  refine bo_iconst (v := 1) hx dL_1145 (by decide) ?_
  refine bo_iadd hx dL_1146 ?_
  refine bo_sld hx hs hin1 dL_1147 ?_
  refine bo_goW (z := false) hx (fun rr hh => bo_runV (As := [.int (xs (i + 1).toNatClampNeg)]) (S := [.int (r0.1)]) hx dL_1148 lk_L_183 mi_X11_keep bo_o_135 rfl rfl (kX11_keep (bo_l x) (bo_g x) hx.inj r0.2 (xs (i + 1).toNatClampNeg) rr hh) ⟨by decide, by decide⟩ rfl rfl (Nat.le_of_ble_eq_true rfl)) (fun r1 _ => ?_)
  exact bo_icmp_eq hx 1179 dL_1151 (by decide) (bo_arr (fun h => h)) (fun _ h => by cases h)
noncomputable def lS_42 (σ : bo_M) (p q : Int32) : Option bo_M := (mX10_goBack σ p).bind fun r0 => (mX11_goBack r0.2 p).bind fun r1 => if r0.1 = r1.1 then some r1.2 else none
theorem lC_42 (hx : bo_OK x cL "BellRopeLaw" 4 9 320) (hs : sc x b n xs) (hin1 : vp_in (i + 1) n) (hin2 : vp_in (i + 2) n) : bo_D x 1156 (lawL x b i) [] σ (lS_42 σ (xs (i + 1).toNatClampNeg) (xs (i + 2).toNatClampNeg)) (fun σ' => bo_N x 1179 (lawL x b i) [] σ') := by
  unfold lS_42
  refine bo_aload_n hx dL_1156 rfl 2 rfl ?_
  refine bo_aload_n hx dL_1157 rfl 3 rfl ?_
  refine bo_iload_n hx dL_1158 rfl 0 rfl ?_
  refine bo_iconst (v := 1) hx dL_1159 (by decide) ?_
  refine bo_iadd hx dL_1160 ?_
  refine bo_sld hx hs hin1 dL_1161 ?_
  refine bo_goW (z := false) hx (fun rr hh => bo_runV (As := [.int (xs (i + 1).toNatClampNeg)]) (S := []) hx dL_1162 lk_L_184 mi_X10_goBack bo_o_0 rfl rfl (kX10_goBack (bo_l x) (bo_g x) hx.inj σ (xs (i + 1).toNatClampNeg) rr hh) ⟨by decide, by decide⟩ rfl rfl (Nat.le_of_ble_eq_true rfl)) (fun r0 _ => ?_)
  refine bo_aload_n hx dL_1165 rfl 1 rfl ?_
  refine bo_aload_n hx dL_1166 rfl 3 rfl ?_
  refine bo_iload_n hx dL_1167 rfl 0 rfl ?_
  refine bo_iconst (v := 1) hx dL_1168 (by decide) ?_
  refine bo_iadd hx dL_1169 ?_
  refine bo_sld hx hs hin1 dL_1170 ?_
  refine bo_goW (z := false) hx (fun rr hh => bo_runV (As := [.int (xs (i + 1).toNatClampNeg)]) (S := [.int (r0.1)]) hx dL_1171 lk_L_187 mi_X11_goBack bo_o_135 rfl rfl (kX11_goBack (bo_l x) (bo_g x) hx.inj r0.2 (xs (i + 1).toNatClampNeg) rr hh) ⟨by decide, by decide⟩ rfl rfl (Nat.le_of_ble_eq_true rfl)) (fun r1 _ => ?_)
  exact bo_icmp_eq hx 1179 dL_1174 (by decide) (bo_arr (fun h => h)) (fun _ h => by cases h)
end LAW
