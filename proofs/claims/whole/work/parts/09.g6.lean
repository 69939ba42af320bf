/-! ===== the law's cases: by program (gen6.py) ===== -/
theorem dL_224 : decode code 224 = .ok (.aload_n 1, 1) := by decide +kernel
theorem dL_225 : decode code 225 = .ok (.aload_n 0, 1) := by decide +kernel
theorem dL_226 : decode code 226 = .ok (.iload_n 3, 1) := by decide +kernel
theorem dL_227 : decode code 227 = .ok (.iconst 1, 1) := by decide +kernel
theorem dL_228 : decode code 228 = .ok (.iadd, 1) := by decide +kernel
theorem dL_229 : decode code 229 = .ok (.iaload, 1) := by decide +kernel
theorem dL_230 : decode code 230 = .ok (.aload_n 0, 1) := by decide +kernel
theorem dL_231 : decode code 231 = .ok (.iload_n 3, 1) := by decide +kernel
theorem dL_232 : decode code 232 = .ok (.iconst 2, 1) := by decide +kernel
theorem dL_233 : decode code 233 = .ok (.iadd, 1) := by decide +kernel
theorem dL_234 : decode code 234 = .ok (.iaload, 1) := by decide +kernel
theorem dL_235 : decode code 235 = .ok (.invokevirtual 13, 3) := by decide +kernel
theorem dL_238 : decode code 238 = .ok (.aload_n 2, 1) := by decide +kernel
theorem dL_239 : decode code 239 = .ok (.aload_n 0, 1) := by decide +kernel
theorem dL_240 : decode code 240 = .ok (.iload_n 3, 1) := by decide +kernel
theorem dL_241 : decode code 241 = .ok (.iconst 1, 1) := by decide +kernel
theorem dL_242 : decode code 242 = .ok (.iadd, 1) := by decide +kernel
theorem dL_243 : decode code 243 = .ok (.iaload, 1) := by decide +kernel
theorem dL_244 : decode code 244 = .ok (.aload_n 0, 1) := by decide +kernel
theorem dL_245 : decode code 245 = .ok (.iload_n 3, 1) := by decide +kernel
theorem dL_246 : decode code 246 = .ok (.iconst 2, 1) := by decide +kernel
theorem dL_247 : decode code 247 = .ok (.iadd, 1) := by decide +kernel
theorem dL_248 : decode code 248 = .ok (.iaload, 1) := by decide +kernel
theorem dL_249 : decode code 249 = .ok (.invokevirtual 17, 3) := by decide +kernel
theorem dL_252 : decode code 252 = .ok (.if_icmp .eq 1149, 3) := by decide +kernel
theorem dL_257 : decode code 257 = .ok (.aload_n 1, 1) := by decide +kernel
theorem dL_258 : decode code 258 = .ok (.aload_n 0, 1) := by decide +kernel
theorem dL_259 : decode code 259 = .ok (.iload_n 3, 1) := by decide +kernel
theorem dL_260 : decode code 260 = .ok (.iconst 1, 1) := by decide +kernel
theorem dL_261 : decode code 261 = .ok (.iadd, 1) := by decide +kernel
theorem dL_262 : decode code 262 = .ok (.iaload, 1) := by decide +kernel
theorem dL_263 : decode code 263 = .ok (.aload_n 0, 1) := by decide +kernel
theorem dL_264 : decode code 264 = .ok (.iload_n 3, 1) := by decide +kernel
theorem dL_265 : decode code 265 = .ok (.iconst 2, 1) := by decide +kernel
theorem dL_266 : decode code 266 = .ok (.iadd, 1) := by decide +kernel
theorem dL_267 : decode code 267 = .ok (.iaload, 1) := by decide +kernel
theorem dL_268 : decode code 268 = .ok (.invokevirtual 18, 3) := by decide +kernel
theorem dL_271 : decode code 271 = .ok (.aload_n 2, 1) := by decide +kernel
theorem dL_272 : decode code 272 = .ok (.aload_n 0, 1) := by decide +kernel
theorem dL_273 : decode code 273 = .ok (.iload_n 3, 1) := by decide +kernel
theorem dL_274 : decode code 274 = .ok (.iconst 1, 1) := by decide +kernel
theorem dL_275 : decode code 275 = .ok (.iadd, 1) := by decide +kernel
theorem dL_276 : decode code 276 = .ok (.iaload, 1) := by decide +kernel
theorem dL_277 : decode code 277 = .ok (.aload_n 0, 1) := by decide +kernel
theorem dL_278 : decode code 278 = .ok (.iload_n 3, 1) := by decide +kernel
theorem dL_279 : decode code 279 = .ok (.iconst 2, 1) := by decide +kernel
theorem dL_280 : decode code 280 = .ok (.iadd, 1) := by decide +kernel
theorem dL_281 : decode code 281 = .ok (.iaload, 1) := by decide +kernel
theorem dL_282 : decode code 282 = .ok (.invokevirtual 21, 3) := by decide +kernel
theorem dL_285 : decode code 285 = .ok (.if_icmp .eq 1116, 3) := by decide +kernel
theorem dL_290 : decode code 290 = .ok (.aload_n 1, 1) := by decide +kernel
theorem dL_291 : decode code 291 = .ok (.aload_n 0, 1) := by decide +kernel
theorem dL_292 : decode code 292 = .ok (.iload_n 3, 1) := by decide +kernel
theorem dL_293 : decode code 293 = .ok (.iconst 1, 1) := by decide +kernel
theorem dL_294 : decode code 294 = .ok (.iadd, 1) := by decide +kernel
theorem dL_295 : decode code 295 = .ok (.iaload, 1) := by decide +kernel
theorem dL_296 : decode code 296 = .ok (.aload_n 0, 1) := by decide +kernel
theorem dL_297 : decode code 297 = .ok (.iload_n 3, 1) := by decide +kernel
theorem dL_298 : decode code 298 = .ok (.iconst 2, 1) := by decide +kernel
theorem dL_299 : decode code 299 = .ok (.iadd, 1) := by decide +kernel
theorem dL_300 : decode code 300 = .ok (.iaload, 1) := by decide +kernel
theorem dL_301 : decode code 301 = .ok (.aload_n 0, 1) := by decide +kernel
theorem dL_302 : decode code 302 = .ok (.iload_n 3, 1) := by decide +kernel
theorem dL_303 : decode code 303 = .ok (.iconst 3, 1) := by decide +kernel
theorem dL_304 : decode code 304 = .ok (.iadd, 1) := by decide +kernel
theorem dL_305 : decode code 305 = .ok (.iaload, 1) := by decide +kernel
theorem dL_306 : decode code 306 = .ok (.invokevirtual 22, 3) := by decide +kernel
theorem dL_309 : decode code 309 = .ok (.aload_n 2, 1) := by decide +kernel
theorem dL_310 : decode code 310 = .ok (.aload_n 0, 1) := by decide +kernel
theorem dL_311 : decode code 311 = .ok (.iload_n 3, 1) := by decide +kernel
theorem dL_312 : decode code 312 = .ok (.iconst 1, 1) := by decide +kernel
theorem dL_313 : decode code 313 = .ok (.iadd, 1) := by decide +kernel
theorem dL_314 : decode code 314 = .ok (.iaload, 1) := by decide +kernel
theorem dL_315 : decode code 315 = .ok (.aload_n 0, 1) := by decide +kernel
theorem dL_316 : decode code 316 = .ok (.iload_n 3, 1) := by decide +kernel
theorem dL_317 : decode code 317 = .ok (.iconst 2, 1) := by decide +kernel
theorem dL_318 : decode code 318 = .ok (.iadd, 1) := by decide +kernel
theorem dL_319 : decode code 319 = .ok (.iaload, 1) := by decide +kernel
theorem dL_320 : decode code 320 = .ok (.aload_n 0, 1) := by decide +kernel
theorem dL_321 : decode code 321 = .ok (.iload_n 3, 1) := by decide +kernel
theorem dL_322 : decode code 322 = .ok (.iconst 3, 1) := by decide +kernel
theorem dL_323 : decode code 323 = .ok (.iadd, 1) := by decide +kernel
theorem dL_324 : decode code 324 = .ok (.iaload, 1) := by decide +kernel
theorem dL_325 : decode code 325 = .ok (.invokevirtual 26, 3) := by decide +kernel
theorem dL_328 : decode code 328 = .ok (.if_icmp .eq 1073, 3) := by decide +kernel
theorem dL_333 : decode code 333 = .ok (.aload_n 1, 1) := by decide +kernel
theorem dL_334 : decode code 334 = .ok (.aload_n 0, 1) := by decide +kernel
theorem dL_335 : decode code 335 = .ok (.iload_n 3, 1) := by decide +kernel
theorem dL_336 : decode code 336 = .ok (.iconst 1, 1) := by decide +kernel
theorem dL_337 : decode code 337 = .ok (.iadd, 1) := by decide +kernel
theorem dL_338 : decode code 338 = .ok (.iaload, 1) := by decide +kernel
theorem dL_339 : decode code 339 = .ok (.aload_n 0, 1) := by decide +kernel
theorem dL_340 : decode code 340 = .ok (.iload_n 3, 1) := by decide +kernel
theorem dL_341 : decode code 341 = .ok (.iconst 2, 1) := by decide +kernel
theorem dL_342 : decode code 342 = .ok (.iadd, 1) := by decide +kernel
theorem dL_343 : decode code 343 = .ok (.iaload, 1) := by decide +kernel
theorem dL_344 : decode code 344 = .ok (.aload_n 0, 1) := by decide +kernel
theorem dL_345 : decode code 345 = .ok (.iload_n 3, 1) := by decide +kernel
theorem dL_346 : decode code 346 = .ok (.iconst 3, 1) := by decide +kernel
theorem dL_347 : decode code 347 = .ok (.iadd, 1) := by decide +kernel
theorem dL_348 : decode code 348 = .ok (.iaload, 1) := by decide +kernel
theorem dL_349 : decode code 349 = .ok (.invokevirtual 27, 3) := by decide +kernel
theorem dL_352 : decode code 352 = .ok (.aload_n 2, 1) := by decide +kernel
theorem dL_353 : decode code 353 = .ok (.aload_n 0, 1) := by decide +kernel
theorem dL_354 : decode code 354 = .ok (.iload_n 3, 1) := by decide +kernel
theorem dL_355 : decode code 355 = .ok (.iconst 1, 1) := by decide +kernel
theorem dL_356 : decode code 356 = .ok (.iadd, 1) := by decide +kernel
theorem dL_357 : decode code 357 = .ok (.iaload, 1) := by decide +kernel
theorem dL_358 : decode code 358 = .ok (.aload_n 0, 1) := by decide +kernel
theorem dL_359 : decode code 359 = .ok (.iload_n 3, 1) := by decide +kernel
theorem dL_360 : decode code 360 = .ok (.iconst 2, 1) := by decide +kernel
theorem dL_361 : decode code 361 = .ok (.iadd, 1) := by decide +kernel
theorem dL_362 : decode code 362 = .ok (.iaload, 1) := by decide +kernel
theorem dL_363 : decode code 363 = .ok (.aload_n 0, 1) := by decide +kernel
theorem dL_364 : decode code 364 = .ok (.iload_n 3, 1) := by decide +kernel
theorem dL_365 : decode code 365 = .ok (.iconst 3, 1) := by decide +kernel
theorem dL_366 : decode code 366 = .ok (.iadd, 1) := by decide +kernel
theorem dL_367 : decode code 367 = .ok (.iaload, 1) := by decide +kernel
theorem dL_368 : decode code 368 = .ok (.invokevirtual 30, 3) := by decide +kernel
theorem dL_371 : decode code 371 = .ok (.if_icmp .eq 1030, 3) := by decide +kernel
theorem dL_376 : decode code 376 = .ok (.aload_n 1, 1) := by decide +kernel
theorem dL_377 : decode code 377 = .ok (.aload_n 0, 1) := by decide +kernel
theorem dL_378 : decode code 378 = .ok (.iload_n 3, 1) := by decide +kernel
theorem dL_379 : decode code 379 = .ok (.iconst 1, 1) := by decide +kernel
theorem dL_380 : decode code 380 = .ok (.iadd, 1) := by decide +kernel
theorem dL_381 : decode code 381 = .ok (.iaload, 1) := by decide +kernel
theorem dL_382 : decode code 382 = .ok (.aload_n 0, 1) := by decide +kernel
theorem dL_383 : decode code 383 = .ok (.iload_n 3, 1) := by decide +kernel
theorem dL_384 : decode code 384 = .ok (.iconst 2, 1) := by decide +kernel
theorem dL_385 : decode code 385 = .ok (.iadd, 1) := by decide +kernel
theorem dL_386 : decode code 386 = .ok (.iaload, 1) := by decide +kernel
theorem dL_387 : decode code 387 = .ok (.invokevirtual 31, 3) := by decide +kernel
theorem dL_390 : decode code 390 = .ok (.aload_n 2, 1) := by decide +kernel
theorem dL_391 : decode code 391 = .ok (.aload_n 0, 1) := by decide +kernel
theorem dL_392 : decode code 392 = .ok (.iload_n 3, 1) := by decide +kernel
theorem dL_393 : decode code 393 = .ok (.iconst 1, 1) := by decide +kernel
theorem dL_394 : decode code 394 = .ok (.iadd, 1) := by decide +kernel
theorem dL_395 : decode code 395 = .ok (.iaload, 1) := by decide +kernel
theorem dL_396 : decode code 396 = .ok (.aload_n 0, 1) := by decide +kernel
theorem dL_397 : decode code 397 = .ok (.iload_n 3, 1) := by decide +kernel
theorem dL_398 : decode code 398 = .ok (.iconst 2, 1) := by decide +kernel
theorem dL_399 : decode code 399 = .ok (.iadd, 1) := by decide +kernel
theorem dL_400 : decode code 400 = .ok (.iaload, 1) := by decide +kernel
theorem dL_401 : decode code 401 = .ok (.invokevirtual 34, 3) := by decide +kernel
theorem dL_404 : decode code 404 = .ok (.if_icmp .eq 997, 3) := by decide +kernel
theorem dL_409 : decode code 409 = .ok (.aload_n 1, 1) := by decide +kernel
theorem dL_410 : decode code 410 = .ok (.aload_n 0, 1) := by decide +kernel
theorem dL_411 : decode code 411 = .ok (.iload_n 3, 1) := by decide +kernel
theorem dL_412 : decode code 412 = .ok (.iconst 1, 1) := by decide +kernel
theorem dL_413 : decode code 413 = .ok (.iadd, 1) := by decide +kernel
theorem dL_414 : decode code 414 = .ok (.iaload, 1) := by decide +kernel
theorem dL_415 : decode code 415 = .ok (.aload_n 0, 1) := by decide +kernel
theorem dL_416 : decode code 416 = .ok (.iload_n 3, 1) := by decide +kernel
theorem dL_417 : decode code 417 = .ok (.iconst 2, 1) := by decide +kernel
theorem dL_418 : decode code 418 = .ok (.iadd, 1) := by decide +kernel
theorem dL_419 : decode code 419 = .ok (.iaload, 1) := by decide +kernel
theorem dL_420 : decode code 420 = .ok (.invokevirtual 35, 3) := by decide +kernel
theorem dL_423 : decode code 423 = .ok (.aload_n 2, 1) := by decide +kernel
theorem dL_424 : decode code 424 = .ok (.aload_n 0, 1) := by decide +kernel
theorem dL_425 : decode code 425 = .ok (.iload_n 3, 1) := by decide +kernel
theorem dL_426 : decode code 426 = .ok (.iconst 1, 1) := by decide +kernel
theorem dL_427 : decode code 427 = .ok (.iadd, 1) := by decide +kernel
theorem dL_428 : decode code 428 = .ok (.iaload, 1) := by decide +kernel
theorem dL_429 : decode code 429 = .ok (.aload_n 0, 1) := by decide +kernel
theorem dL_430 : decode code 430 = .ok (.iload_n 3, 1) := by decide +kernel
theorem dL_431 : decode code 431 = .ok (.iconst 2, 1) := by decide +kernel
theorem dL_432 : decode code 432 = .ok (.iadd, 1) := by decide +kernel
theorem dL_433 : decode code 433 = .ok (.iaload, 1) := by decide +kernel
theorem dL_434 : decode code 434 = .ok (.invokevirtual 38, 3) := by decide +kernel
theorem dL_437 : decode code 437 = .ok (.if_icmp .eq 964, 3) := by decide +kernel
theorem dL_442 : decode code 442 = .ok (.aload_n 1, 1) := by decide +kernel
theorem dL_443 : decode code 443 = .ok (.aload_n 0, 1) := by decide +kernel
theorem dL_444 : decode code 444 = .ok (.iload_n 3, 1) := by decide +kernel
theorem dL_445 : decode code 445 = .ok (.iconst 1, 1) := by decide +kernel
theorem dL_446 : decode code 446 = .ok (.iadd, 1) := by decide +kernel
theorem dL_447 : decode code 447 = .ok (.iaload, 1) := by decide +kernel
theorem dL_448 : decode code 448 = .ok (.invokevirtual 39, 3) := by decide +kernel
theorem dL_451 : decode code 451 = .ok (.aload_n 2, 1) := by decide +kernel
theorem dL_452 : decode code 452 = .ok (.aload_n 0, 1) := by decide +kernel
theorem dL_453 : decode code 453 = .ok (.iload_n 3, 1) := by decide +kernel
theorem dL_454 : decode code 454 = .ok (.iconst 1, 1) := by decide +kernel
theorem dL_455 : decode code 455 = .ok (.iadd, 1) := by decide +kernel
theorem dL_456 : decode code 456 = .ok (.iaload, 1) := by decide +kernel
theorem dL_457 : decode code 457 = .ok (.invokevirtual 43, 3) := by decide +kernel
theorem dL_460 : decode code 460 = .ok (.if_icmp .eq 941, 3) := by decide +kernel
theorem dL_465 : decode code 465 = .ok (.aload_n 1, 1) := by decide +kernel
theorem dL_466 : decode code 466 = .ok (.aload_n 0, 1) := by decide +kernel
theorem dL_467 : decode code 467 = .ok (.iload_n 3, 1) := by decide +kernel
theorem dL_468 : decode code 468 = .ok (.iconst 1, 1) := by decide +kernel
theorem dL_469 : decode code 469 = .ok (.iadd, 1) := by decide +kernel
theorem dL_470 : decode code 470 = .ok (.iaload, 1) := by decide +kernel
theorem dL_471 : decode code 471 = .ok (.aload_n 0, 1) := by decide +kernel
theorem dL_472 : decode code 472 = .ok (.iload_n 3, 1) := by decide +kernel
theorem dL_473 : decode code 473 = .ok (.iconst 2, 1) := by decide +kernel
theorem dL_474 : decode code 474 = .ok (.iadd, 1) := by decide +kernel
theorem dL_475 : decode code 475 = .ok (.iaload, 1) := by decide +kernel
theorem dL_476 : decode code 476 = .ok (.invokevirtual 44, 3) := by decide +kernel
theorem dL_479 : decode code 479 = .ok (.aload_n 2, 1) := by decide +kernel
theorem dL_480 : decode code 480 = .ok (.aload_n 0, 1) := by decide +kernel
theorem dL_481 : decode code 481 = .ok (.iload_n 3, 1) := by decide +kernel
theorem dL_482 : decode code 482 = .ok (.iconst 1, 1) := by decide +kernel
theorem dL_483 : decode code 483 = .ok (.iadd, 1) := by decide +kernel
theorem dL_484 : decode code 484 = .ok (.iaload, 1) := by decide +kernel
theorem dL_485 : decode code 485 = .ok (.aload_n 0, 1) := by decide +kernel
theorem dL_486 : decode code 486 = .ok (.iload_n 3, 1) := by decide +kernel
theorem dL_487 : decode code 487 = .ok (.iconst 2, 1) := by decide +kernel
theorem dL_488 : decode code 488 = .ok (.iadd, 1) := by decide +kernel
theorem dL_489 : decode code 489 = .ok (.iaload, 1) := by decide +kernel
theorem dL_490 : decode code 490 = .ok (.invokevirtual 47, 3) := by decide +kernel
theorem dL_493 : decode code 493 = .ok (.if_icmp .eq 908, 3) := by decide +kernel
theorem dL_511 : decode code 511 = .ok (.aload_n 1, 1) := by decide +kernel
theorem dL_512 : decode code 512 = .ok (.invokevirtual 53, 3) := by decide +kernel
theorem dL_515 : decode code 515 = .ok (.aload_n 2, 1) := by decide +kernel
theorem dL_516 : decode code 516 = .ok (.invokevirtual 56, 3) := by decide +kernel
theorem dL_519 : decode code 519 = .ok (.if_icmp .eq 882, 3) := by decide +kernel
theorem dL_524 : decode code 524 = .ok (.aload_n 1, 1) := by decide +kernel
theorem dL_525 : decode code 525 = .ok (.aload_n 0, 1) := by decide +kernel
theorem dL_526 : decode code 526 = .ok (.iload_n 3, 1) := by decide +kernel
theorem dL_527 : decode code 527 = .ok (.iconst 1, 1) := by decide +kernel
theorem dL_528 : decode code 528 = .ok (.iadd, 1) := by decide +kernel
theorem dL_529 : decode code 529 = .ok (.iaload, 1) := by decide +kernel
theorem dL_530 : decode code 530 = .ok (.invokevirtual 57, 3) := by decide +kernel
theorem dL_533 : decode code 533 = .ok (.aload_n 2, 1) := by decide +kernel
theorem dL_534 : decode code 534 = .ok (.aload_n 0, 1) := by decide +kernel
theorem dL_535 : decode code 535 = .ok (.iload_n 3, 1) := by decide +kernel
theorem dL_536 : decode code 536 = .ok (.iconst 1, 1) := by decide +kernel
theorem dL_537 : decode code 537 = .ok (.iadd, 1) := by decide +kernel
theorem dL_538 : decode code 538 = .ok (.iaload, 1) := by decide +kernel
theorem dL_539 : decode code 539 = .ok (.invokevirtual 60, 3) := by decide +kernel
theorem dL_542 : decode code 542 = .ok (.if_icmp .eq 859, 3) := by decide +kernel
theorem dL_547 : decode code 547 = .ok (.aload_n 1, 1) := by decide +kernel
theorem dL_548 : decode code 548 = .ok (.aload_n 0, 1) := by decide +kernel
theorem dL_549 : decode code 549 = .ok (.iload_n 3, 1) := by decide +kernel
theorem dL_550 : decode code 550 = .ok (.iconst 1, 1) := by decide +kernel
theorem dL_551 : decode code 551 = .ok (.iadd, 1) := by decide +kernel
theorem dL_552 : decode code 552 = .ok (.iaload, 1) := by decide +kernel
theorem dL_553 : decode code 553 = .ok (.invokevirtual 61, 3) := by decide +kernel
theorem dL_556 : decode code 556 = .ok (.aload_n 2, 1) := by decide +kernel
theorem dL_557 : decode code 557 = .ok (.aload_n 0, 1) := by decide +kernel
theorem dL_558 : decode code 558 = .ok (.iload_n 3, 1) := by decide +kernel
theorem dL_559 : decode code 559 = .ok (.iconst 1, 1) := by decide +kernel
theorem dL_560 : decode code 560 = .ok (.iadd, 1) := by decide +kernel
theorem dL_561 : decode code 561 = .ok (.iaload, 1) := by decide +kernel
theorem dL_562 : decode code 562 = .ok (.invokevirtual 64, 3) := by decide +kernel
theorem dL_565 : decode code 565 = .ok (.if_icmp .eq 836, 3) := by decide +kernel
theorem dL_570 : decode code 570 = .ok (.aload_n 1, 1) := by decide +kernel
theorem dL_571 : decode code 571 = .ok (.invokevirtual 65, 3) := by decide +kernel
theorem dL_574 : decode code 574 = .ok (.aload_n 2, 1) := by decide +kernel
theorem dL_575 : decode code 575 = .ok (.invokevirtual 68, 3) := by decide +kernel
theorem dL_578 : decode code 578 = .ok (.if_icmp .eq 823, 3) := by decide +kernel
theorem dL_583 : decode code 583 = .ok (.aload_n 1, 1) := by decide +kernel
theorem dL_584 : decode code 584 = .ok (.invokevirtual 69, 3) := by decide +kernel
theorem dL_587 : decode code 587 = .ok (.aload_n 2, 1) := by decide +kernel
theorem dL_588 : decode code 588 = .ok (.invokevirtual 72, 3) := by decide +kernel
theorem dL_591 : decode code 591 = .ok (.if_icmp .eq 810, 3) := by decide +kernel
theorem dL_596 : decode code 596 = .ok (.aload_n 1, 1) := by decide +kernel
theorem dL_597 : decode code 597 = .ok (.invokevirtual 73, 3) := by decide +kernel
theorem dL_600 : decode code 600 = .ok (.aload_n 2, 1) := by decide +kernel
theorem dL_601 : decode code 601 = .ok (.invokevirtual 76, 3) := by decide +kernel
theorem dL_604 : decode code 604 = .ok (.if_icmp .eq 797, 3) := by decide +kernel
theorem dL_609 : decode code 609 = .ok (.aload_n 1, 1) := by decide +kernel
theorem dL_610 : decode code 610 = .ok (.aload_n 0, 1) := by decide +kernel
theorem dL_611 : decode code 611 = .ok (.iload_n 3, 1) := by decide +kernel
theorem dL_612 : decode code 612 = .ok (.iconst 1, 1) := by decide +kernel
theorem dL_613 : decode code 613 = .ok (.iadd, 1) := by decide +kernel
theorem dL_614 : decode code 614 = .ok (.iaload, 1) := by decide +kernel
theorem dL_615 : decode code 615 = .ok (.invokevirtual 77, 3) := by decide +kernel
theorem dL_618 : decode code 618 = .ok (.aload_n 2, 1) := by decide +kernel
theorem dL_619 : decode code 619 = .ok (.aload_n 0, 1) := by decide +kernel
theorem dL_620 : decode code 620 = .ok (.iload_n 3, 1) := by decide +kernel
theorem dL_621 : decode code 621 = .ok (.iconst 1, 1) := by decide +kernel
theorem dL_622 : decode code 622 = .ok (.iadd, 1) := by decide +kernel
theorem dL_623 : decode code 623 = .ok (.iaload, 1) := by decide +kernel
theorem dL_624 : decode code 624 = .ok (.invokevirtual 80, 3) := by decide +kernel
theorem dL_627 : decode code 627 = .ok (.if_icmp .eq 774, 3) := by decide +kernel
theorem dL_632 : decode code 632 = .ok (.aload_n 1, 1) := by decide +kernel
theorem dL_633 : decode code 633 = .ok (.aload_n 0, 1) := by decide +kernel
theorem dL_634 : decode code 634 = .ok (.iload_n 3, 1) := by decide +kernel
theorem dL_635 : decode code 635 = .ok (.iconst 1, 1) := by decide +kernel
theorem dL_636 : decode code 636 = .ok (.iadd, 1) := by decide +kernel
theorem dL_637 : decode code 637 = .ok (.iaload, 1) := by decide +kernel
theorem dL_638 : decode code 638 = .ok (.aload_n 0, 1) := by decide +kernel
theorem dL_639 : decode code 639 = .ok (.iload_n 3, 1) := by decide +kernel
theorem dL_640 : decode code 640 = .ok (.iconst 2, 1) := by decide +kernel
theorem dL_641 : decode code 641 = .ok (.iadd, 1) := by decide +kernel
theorem dL_642 : decode code 642 = .ok (.iaload, 1) := by decide +kernel
theorem dL_643 : decode code 643 = .ok (.aload_n 0, 1) := by decide +kernel
theorem dL_644 : decode code 644 = .ok (.iload_n 3, 1) := by decide +kernel
theorem dL_645 : decode code 645 = .ok (.iconst 3, 1) := by decide +kernel
theorem dL_646 : decode code 646 = .ok (.iadd, 1) := by decide +kernel
theorem dL_647 : decode code 647 = .ok (.iaload, 1) := by decide +kernel
theorem dL_648 : decode code 648 = .ok (.invokevirtual 81, 3) := by decide +kernel
theorem dL_651 : decode code 651 = .ok (.aload_n 2, 1) := by decide +kernel
theorem dL_652 : decode code 652 = .ok (.aload_n 0, 1) := by decide +kernel
theorem dL_653 : decode code 653 = .ok (.iload_n 3, 1) := by decide +kernel
theorem dL_654 : decode code 654 = .ok (.iconst 1, 1) := by decide +kernel
theorem dL_655 : decode code 655 = .ok (.iadd, 1) := by decide +kernel
theorem dL_656 : decode code 656 = .ok (.iaload, 1) := by decide +kernel
theorem dL_657 : decode code 657 = .ok (.aload_n 0, 1) := by decide +kernel
theorem dL_658 : decode code 658 = .ok (.iload_n 3, 1) := by decide +kernel
theorem dL_659 : decode code 659 = .ok (.iconst 2, 1) := by decide +kernel
theorem dL_660 : decode code 660 = .ok (.iadd, 1) := by decide +kernel
theorem dL_661 : decode code 661 = .ok (.iaload, 1) := by decide +kernel
theorem dL_662 : decode code 662 = .ok (.aload_n 0, 1) := by decide +kernel
theorem dL_663 : decode code 663 = .ok (.iload_n 3, 1) := by decide +kernel
theorem dL_664 : decode code 664 = .ok (.iconst 3, 1) := by decide +kernel
theorem dL_665 : decode code 665 = .ok (.iadd, 1) := by decide +kernel
theorem dL_666 : decode code 666 = .ok (.iaload, 1) := by decide +kernel
theorem dL_667 : decode code 667 = .ok (.invokevirtual 85, 3) := by decide +kernel
theorem dL_670 : decode code 670 = .ok (.lcmp, 1) := by decide +kernel
theorem dL_671 : decode code 671 = .ok (.ifCond .eq 730, 3) := by decide +kernel
theorem dL_676 : decode code 676 = .ok (.aload_n 1, 1) := by decide +kernel
theorem dL_677 : decode code 677 = .ok (.aload_n 0, 1) := by decide +kernel
theorem dL_678 : decode code 678 = .ok (.iload_n 3, 1) := by decide +kernel
theorem dL_679 : decode code 679 = .ok (.iconst 1, 1) := by decide +kernel
theorem dL_680 : decode code 680 = .ok (.iadd, 1) := by decide +kernel
theorem dL_681 : decode code 681 = .ok (.iaload, 1) := by decide +kernel
theorem dL_682 : decode code 682 = .ok (.aload_n 0, 1) := by decide +kernel
theorem dL_683 : decode code 683 = .ok (.iload_n 3, 1) := by decide +kernel
theorem dL_684 : decode code 684 = .ok (.iconst 2, 1) := by decide +kernel
theorem dL_685 : decode code 685 = .ok (.iadd, 1) := by decide +kernel
theorem dL_686 : decode code 686 = .ok (.iaload, 1) := by decide +kernel
theorem dL_687 : decode code 687 = .ok (.invokevirtual 86, 3) := by decide +kernel
theorem dL_690 : decode code 690 = .ok (.aload_n 2, 1) := by decide +kernel
theorem dL_691 : decode code 691 = .ok (.aload_n 0, 1) := by decide +kernel
theorem dL_692 : decode code 692 = .ok (.iload_n 3, 1) := by decide +kernel
theorem dL_693 : decode code 693 = .ok (.iconst 1, 1) := by decide +kernel
theorem dL_694 : decode code 694 = .ok (.iadd, 1) := by decide +kernel
theorem dL_695 : decode code 695 = .ok (.iaload, 1) := by decide +kernel
theorem dL_696 : decode code 696 = .ok (.aload_n 0, 1) := by decide +kernel
theorem dL_697 : decode code 697 = .ok (.iload_n 3, 1) := by decide +kernel
theorem dL_698 : decode code 698 = .ok (.iconst 2, 1) := by decide +kernel
theorem dL_699 : decode code 699 = .ok (.iadd, 1) := by decide +kernel
theorem dL_700 : decode code 700 = .ok (.iaload, 1) := by decide +kernel
theorem dL_701 : decode code 701 = .ok (.invokevirtual 90, 3) := by decide +kernel
theorem dL_704 : decode code 704 = .ok (.lcmp, 1) := by decide +kernel
theorem dL_705 : decode code 705 = .ok (.ifCond .eq 696, 3) := by decide +kernel
theorem dL_710 : decode code 710 = .ok (.aload_n 1, 1) := by decide +kernel
theorem dL_711 : decode code 711 = .ok (.aload_n 0, 1) := by decide +kernel
theorem dL_712 : decode code 712 = .ok (.iload_n 3, 1) := by decide +kernel
theorem dL_713 : decode code 713 = .ok (.iconst 1, 1) := by decide +kernel
theorem dL_714 : decode code 714 = .ok (.iadd, 1) := by decide +kernel
theorem dL_715 : decode code 715 = .ok (.iaload, 1) := by decide +kernel
theorem dL_716 : decode code 716 = .ok (.aload_n 0, 1) := by decide +kernel
theorem dL_717 : decode code 717 = .ok (.iload_n 3, 1) := by decide +kernel
theorem dL_718 : decode code 718 = .ok (.iconst 2, 1) := by decide +kernel
theorem dL_719 : decode code 719 = .ok (.iadd, 1) := by decide +kernel
theorem dL_720 : decode code 720 = .ok (.iaload, 1) := by decide +kernel
theorem dL_721 : decode code 721 = .ok (.invokevirtual 91, 3) := by decide +kernel
theorem dL_724 : decode code 724 = .ok (.aload_n 2, 1) := by decide +kernel
theorem dL_725 : decode code 725 = .ok (.aload_n 0, 1) := by decide +kernel
theorem dL_726 : decode code 726 = .ok (.iload_n 3, 1) := by decide +kernel
theorem dL_727 : decode code 727 = .ok (.iconst 1, 1) := by decide +kernel
theorem dL_728 : decode code 728 = .ok (.iadd, 1) := by decide +kernel
theorem dL_729 : decode code 729 = .ok (.iaload, 1) := by decide +kernel
theorem dL_730 : decode code 730 = .ok (.aload_n 0, 1) := by decide +kernel
theorem dL_731 : decode code 731 = .ok (.iload_n 3, 1) := by decide +kernel
theorem dL_732 : decode code 732 = .ok (.iconst 2, 1) := by decide +kernel
theorem dL_733 : decode code 733 = .ok (.iadd, 1) := by decide +kernel
theorem dL_734 : decode code 734 = .ok (.iaload, 1) := by decide +kernel
theorem dL_735 : decode code 735 = .ok (.invokevirtual 94, 3) := by decide +kernel
theorem dL_738 : decode code 738 = .ok (.lcmp, 1) := by decide +kernel
theorem dL_739 : decode code 739 = .ok (.ifCond .eq 662, 3) := by decide +kernel
theorem dL_744 : decode code 744 = .ok (.aload_n 1, 1) := by decide +kernel
theorem dL_745 : decode code 745 = .ok (.aload_n 0, 1) := by decide +kernel
theorem dL_746 : decode code 746 = .ok (.iload_n 3, 1) := by decide +kernel
theorem dL_747 : decode code 747 = .ok (.iconst 1, 1) := by decide +kernel
theorem dL_748 : decode code 748 = .ok (.iadd, 1) := by decide +kernel
theorem dL_749 : decode code 749 = .ok (.iaload, 1) := by decide +kernel
theorem dL_750 : decode code 750 = .ok (.aload_n 0, 1) := by decide +kernel
theorem dL_751 : decode code 751 = .ok (.iload_n 3, 1) := by decide +kernel
theorem dL_752 : decode code 752 = .ok (.iconst 2, 1) := by decide +kernel
theorem dL_753 : decode code 753 = .ok (.iadd, 1) := by decide +kernel
theorem dL_754 : decode code 754 = .ok (.iaload, 1) := by decide +kernel
theorem dL_755 : decode code 755 = .ok (.aload_n 0, 1) := by decide +kernel
theorem dL_756 : decode code 756 = .ok (.iload_n 3, 1) := by decide +kernel
theorem dL_757 : decode code 757 = .ok (.iconst 3, 1) := by decide +kernel
theorem dL_758 : decode code 758 = .ok (.iadd, 1) := by decide +kernel
theorem dL_759 : decode code 759 = .ok (.iaload, 1) := by decide +kernel
theorem dL_760 : decode code 760 = .ok (.invokevirtual 95, 3) := by decide +kernel
theorem dL_763 : decode code 763 = .ok (.aload_n 2, 1) := by decide +kernel
theorem dL_764 : decode code 764 = .ok (.aload_n 0, 1) := by decide +kernel
theorem dL_765 : decode code 765 = .ok (.iload_n 3, 1) := by decide +kernel
theorem dL_766 : decode code 766 = .ok (.iconst 1, 1) := by decide +kernel
theorem dL_767 : decode code 767 = .ok (.iadd, 1) := by decide +kernel
theorem dL_768 : decode code 768 = .ok (.iaload, 1) := by decide +kernel
theorem dL_769 : decode code 769 = .ok (.aload_n 0, 1) := by decide +kernel
theorem dL_770 : decode code 770 = .ok (.iload_n 3, 1) := by decide +kernel
theorem dL_771 : decode code 771 = .ok (.iconst 2, 1) := by decide +kernel
theorem dL_772 : decode code 772 = .ok (.iadd, 1) := by decide +kernel
theorem dL_773 : decode code 773 = .ok (.iaload, 1) := by decide +kernel
theorem dL_774 : decode code 774 = .ok (.aload_n 0, 1) := by decide +kernel
theorem dL_775 : decode code 775 = .ok (.iload_n 3, 1) := by decide +kernel
theorem dL_776 : decode code 776 = .ok (.iconst 3, 1) := by decide +kernel
theorem dL_777 : decode code 777 = .ok (.iadd, 1) := by decide +kernel
theorem dL_778 : decode code 778 = .ok (.iaload, 1) := by decide +kernel
theorem dL_779 : decode code 779 = .ok (.invokevirtual 98, 3) := by decide +kernel
theorem dL_782 : decode code 782 = .ok (.lcmp, 1) := by decide +kernel
theorem dL_783 : decode code 783 = .ok (.ifCond .eq 618, 3) := by decide +kernel
theorem dL_788 : decode code 788 = .ok (.aload_n 1, 1) := by decide +kernel
theorem dL_789 : decode code 789 = .ok (.aload_n 0, 1) := by decide +kernel
theorem dL_790 : decode code 790 = .ok (.iload_n 3, 1) := by decide +kernel
theorem dL_791 : decode code 791 = .ok (.iconst 1, 1) := by decide +kernel
theorem dL_792 : decode code 792 = .ok (.iadd, 1) := by decide +kernel
theorem dL_793 : decode code 793 = .ok (.iaload, 1) := by decide +kernel
theorem dL_794 : decode code 794 = .ok (.invokevirtual 99, 3) := by decide +kernel
theorem dL_797 : decode code 797 = .ok (.aload_n 2, 1) := by decide +kernel
theorem dL_798 : decode code 798 = .ok (.aload_n 0, 1) := by decide +kernel
theorem dL_799 : decode code 799 = .ok (.iload_n 3, 1) := by decide +kernel
theorem dL_800 : decode code 800 = .ok (.iconst 1, 1) := by decide +kernel
theorem dL_801 : decode code 801 = .ok (.iadd, 1) := by decide +kernel
theorem dL_802 : decode code 802 = .ok (.iaload, 1) := by decide +kernel
theorem dL_803 : decode code 803 = .ok (.invokevirtual 102, 3) := by decide +kernel
theorem dL_806 : decode code 806 = .ok (.if_icmp .eq 595, 3) := by decide +kernel
theorem dL_811 : decode code 811 = .ok (.aload_n 1, 1) := by decide +kernel
theorem dL_812 : decode code 812 = .ok (.invokevirtual 103, 3) := by decide +kernel
theorem dL_815 : decode code 815 = .ok (.aload_n 2, 1) := by decide +kernel
theorem dL_816 : decode code 816 = .ok (.invokevirtual 106, 3) := by decide +kernel
theorem dL_819 : decode code 819 = .ok (.if_icmp .eq 582, 3) := by decide +kernel
theorem dL_824 : decode code 824 = .ok (.aload_n 1, 1) := by decide +kernel
theorem dL_825 : decode code 825 = .ok (.aload_n 0, 1) := by decide +kernel
theorem dL_826 : decode code 826 = .ok (.iload_n 3, 1) := by decide +kernel
theorem dL_827 : decode code 827 = .ok (.iconst 1, 1) := by decide +kernel
theorem dL_828 : decode code 828 = .ok (.iadd, 1) := by decide +kernel
theorem dL_829 : decode code 829 = .ok (.iaload, 1) := by decide +kernel
theorem dL_830 : decode code 830 = .ok (.aload_n 0, 1) := by decide +kernel
theorem dL_831 : decode code 831 = .ok (.iload_n 3, 1) := by decide +kernel
theorem dL_832 : decode code 832 = .ok (.iconst 2, 1) := by decide +kernel
theorem dL_833 : decode code 833 = .ok (.iadd, 1) := by decide +kernel
theorem dL_834 : decode code 834 = .ok (.iaload, 1) := by decide +kernel
theorem dL_835 : decode code 835 = .ok (.invokevirtual 107, 3) := by decide +kernel
theorem dL_838 : decode code 838 = .ok (.aload_n 2, 1) := by decide +kernel
theorem dL_839 : decode code 839 = .ok (.aload_n 0, 1) := by decide +kernel
theorem dL_840 : decode code 840 = .ok (.iload_n 3, 1) := by decide +kernel
theorem dL_841 : decode code 841 = .ok (.iconst 1, 1) := by decide +kernel
theorem dL_842 : decode code 842 = .ok (.iadd, 1) := by decide +kernel
theorem dL_843 : decode code 843 = .ok (.iaload, 1) := by decide +kernel
theorem dL_844 : decode code 844 = .ok (.aload_n 0, 1) := by decide +kernel
theorem dL_845 : decode code 845 = .ok (.iload_n 3, 1) := by decide +kernel
theorem dL_846 : decode code 846 = .ok (.iconst 2, 1) := by decide +kernel
theorem dL_847 : decode code 847 = .ok (.iadd, 1) := by decide +kernel
theorem dL_848 : decode code 848 = .ok (.iaload, 1) := by decide +kernel
theorem dL_849 : decode code 849 = .ok (.invokevirtual 110, 3) := by decide +kernel
theorem dL_852 : decode code 852 = .ok (.lcmp, 1) := by decide +kernel
theorem dL_853 : decode code 853 = .ok (.ifCond .eq 548, 3) := by decide +kernel
theorem dL_858 : decode code 858 = .ok (.aload_n 1, 1) := by decide +kernel
theorem dL_859 : decode code 859 = .ok (.aload_n 0, 1) := by decide +kernel
theorem dL_860 : decode code 860 = .ok (.iload_n 3, 1) := by decide +kernel
theorem dL_861 : decode code 861 = .ok (.iconst 1, 1) := by decide +kernel
theorem dL_862 : decode code 862 = .ok (.iadd, 1) := by decide +kernel
theorem dL_863 : decode code 863 = .ok (.iaload, 1) := by decide +kernel
theorem dL_864 : decode code 864 = .ok (.invokevirtual 111, 3) := by decide +kernel
theorem dL_867 : decode code 867 = .ok (.aload_n 2, 1) := by decide +kernel
theorem dL_868 : decode code 868 = .ok (.aload_n 0, 1) := by decide +kernel
theorem dL_869 : decode code 869 = .ok (.iload_n 3, 1) := by decide +kernel
theorem dL_870 : decode code 870 = .ok (.iconst 1, 1) := by decide +kernel
theorem dL_871 : decode code 871 = .ok (.iadd, 1) := by decide +kernel
theorem dL_872 : decode code 872 = .ok (.iaload, 1) := by decide +kernel
theorem dL_873 : decode code 873 = .ok (.invokevirtual 114, 3) := by decide +kernel
theorem dL_876 : decode code 876 = .ok (.if_icmp .eq 525, 3) := by decide +kernel
theorem dL_881 : decode code 881 = .ok (.aload_n 1, 1) := by decide +kernel
theorem dL_882 : decode code 882 = .ok (.aload_n 0, 1) := by decide +kernel
theorem dL_883 : decode code 883 = .ok (.iload_n 3, 1) := by decide +kernel
theorem dL_884 : decode code 884 = .ok (.iconst 1, 1) := by decide +kernel
theorem dL_885 : decode code 885 = .ok (.iadd, 1) := by decide +kernel
theorem dL_886 : decode code 886 = .ok (.iaload, 1) := by decide +kernel
theorem dL_887 : decode code 887 = .ok (.invokevirtual 115, 3) := by decide +kernel
theorem dL_890 : decode code 890 = .ok (.aload_n 2, 1) := by decide +kernel
theorem dL_891 : decode code 891 = .ok (.aload_n 0, 1) := by decide +kernel
theorem dL_892 : decode code 892 = .ok (.iload_n 3, 1) := by decide +kernel
theorem dL_893 : decode code 893 = .ok (.iconst 1, 1) := by decide +kernel
theorem dL_894 : decode code 894 = .ok (.iadd, 1) := by decide +kernel
theorem dL_895 : decode code 895 = .ok (.iaload, 1) := by decide +kernel
theorem dL_896 : decode code 896 = .ok (.invokevirtual 118, 3) := by decide +kernel
theorem dL_899 : decode code 899 = .ok (.if_icmp .eq 502, 3) := by decide +kernel
theorem dL_904 : decode code 904 = .ok (.aload_n 1, 1) := by decide +kernel
theorem dL_905 : decode code 905 = .ok (.aload_n 0, 1) := by decide +kernel
theorem dL_906 : decode code 906 = .ok (.iload_n 3, 1) := by decide +kernel
theorem dL_907 : decode code 907 = .ok (.iconst 1, 1) := by decide +kernel
theorem dL_908 : decode code 908 = .ok (.iadd, 1) := by decide +kernel
theorem dL_909 : decode code 909 = .ok (.iaload, 1) := by decide +kernel
theorem dL_910 : decode code 910 = .ok (.invokevirtual 119, 3) := by decide +kernel
theorem dL_913 : decode code 913 = .ok (.aload_n 2, 1) := by decide +kernel
theorem dL_914 : decode code 914 = .ok (.aload_n 0, 1) := by decide +kernel
theorem dL_915 : decode code 915 = .ok (.iload_n 3, 1) := by decide +kernel
theorem dL_916 : decode code 916 = .ok (.iconst 1, 1) := by decide +kernel
theorem dL_917 : decode code 917 = .ok (.iadd, 1) := by decide +kernel
theorem dL_918 : decode code 918 = .ok (.iaload, 1) := by decide +kernel
theorem dL_919 : decode code 919 = .ok (.invokevirtual 122, 3) := by decide +kernel
theorem dL_922 : decode code 922 = .ok (.if_icmp .eq 479, 3) := by decide +kernel
theorem dL_927 : decode code 927 = .ok (.aload_n 1, 1) := by decide +kernel
theorem dL_928 : decode code 928 = .ok (.aload_n 0, 1) := by decide +kernel
theorem dL_929 : decode code 929 = .ok (.iload_n 3, 1) := by decide +kernel
theorem dL_930 : decode code 930 = .ok (.iconst 1, 1) := by decide +kernel
theorem dL_931 : decode code 931 = .ok (.iadd, 1) := by decide +kernel
theorem dL_932 : decode code 932 = .ok (.iaload, 1) := by decide +kernel
theorem dL_933 : decode code 933 = .ok (.invokevirtual 123, 3) := by decide +kernel
theorem dL_936 : decode code 936 = .ok (.aload_n 2, 1) := by decide +kernel
theorem dL_937 : decode code 937 = .ok (.aload_n 0, 1) := by decide +kernel
theorem dL_938 : decode code 938 = .ok (.iload_n 3, 1) := by decide +kernel
theorem dL_939 : decode code 939 = .ok (.iconst 1, 1) := by decide +kernel
theorem dL_940 : decode code 940 = .ok (.iadd, 1) := by decide +kernel
theorem dL_941 : decode code 941 = .ok (.iaload, 1) := by decide +kernel
theorem dL_942 : decode code 942 = .ok (.invokevirtual 126, 3) := by decide +kernel
theorem dL_945 : decode code 945 = .ok (.if_icmp .eq 456, 3) := by decide +kernel
theorem dL_950 : decode code 950 = .ok (.aload_n 1, 1) := by decide +kernel
theorem dL_951 : decode code 951 = .ok (.aload_n 0, 1) := by decide +kernel
theorem dL_952 : decode code 952 = .ok (.iload_n 3, 1) := by decide +kernel
theorem dL_953 : decode code 953 = .ok (.iconst 1, 1) := by decide +kernel
theorem dL_954 : decode code 954 = .ok (.iadd, 1) := by decide +kernel
theorem dL_955 : decode code 955 = .ok (.iaload, 1) := by decide +kernel
theorem dL_956 : decode code 956 = .ok (.invokevirtual 127, 3) := by decide +kernel
theorem dL_959 : decode code 959 = .ok (.aload_n 2, 1) := by decide +kernel
theorem dL_960 : decode code 960 = .ok (.aload_n 0, 1) := by decide +kernel
theorem dL_961 : decode code 961 = .ok (.iload_n 3, 1) := by decide +kernel
theorem dL_962 : decode code 962 = .ok (.iconst 1, 1) := by decide +kernel
theorem dL_963 : decode code 963 = .ok (.iadd, 1) := by decide +kernel
theorem dL_964 : decode code 964 = .ok (.iaload, 1) := by decide +kernel
theorem dL_965 : decode code 965 = .ok (.invokevirtual 130, 3) := by decide +kernel
theorem dL_968 : decode code 968 = .ok (.if_icmp .eq 433, 3) := by decide +kernel
theorem dL_973 : decode code 973 = .ok (.aload_n 1, 1) := by decide +kernel
theorem dL_974 : decode code 974 = .ok (.invokevirtual 131, 3) := by decide +kernel
theorem dL_977 : decode code 977 = .ok (.aload_n 2, 1) := by decide +kernel
theorem dL_978 : decode code 978 = .ok (.invokevirtual 134, 3) := by decide +kernel
theorem dL_981 : decode code 981 = .ok (.if_icmp .eq 420, 3) := by decide +kernel
theorem dL_986 : decode code 986 = .ok (.aload_n 1, 1) := by decide +kernel
theorem dL_987 : decode code 987 = .ok (.invokevirtual 135, 3) := by decide +kernel
theorem dL_990 : decode code 990 = .ok (.aload_n 2, 1) := by decide +kernel
theorem dL_991 : decode code 991 = .ok (.invokevirtual 138, 3) := by decide +kernel
theorem dL_994 : decode code 994 = .ok (.if_icmp .eq 407, 3) := by decide +kernel
theorem dL_999 : decode code 999 = .ok (.aload_n 1, 1) := by decide +kernel
theorem dL_1000 : decode code 1000 = .ok (.aload_n 0, 1) := by decide +kernel
theorem dL_1001 : decode code 1001 = .ok (.iload_n 3, 1) := by decide +kernel
theorem dL_1002 : decode code 1002 = .ok (.iconst 1, 1) := by decide +kernel
theorem dL_1003 : decode code 1003 = .ok (.iadd, 1) := by decide +kernel
theorem dL_1004 : decode code 1004 = .ok (.iaload, 1) := by decide +kernel
theorem dL_1005 : decode code 1005 = .ok (.aload_n 0, 1) := by decide +kernel
theorem dL_1006 : decode code 1006 = .ok (.iload_n 3, 1) := by decide +kernel
theorem dL_1007 : decode code 1007 = .ok (.iconst 2, 1) := by decide +kernel
theorem dL_1008 : decode code 1008 = .ok (.iadd, 1) := by decide +kernel
theorem dL_1009 : decode code 1009 = .ok (.iaload, 1) := by decide +kernel
theorem dL_1010 : decode code 1010 = .ok (.invokevirtual 139, 3) := by decide +kernel
theorem dL_1013 : decode code 1013 = .ok (.aload_n 2, 1) := by decide +kernel
theorem dL_1014 : decode code 1014 = .ok (.aload_n 0, 1) := by decide +kernel
theorem dL_1015 : decode code 1015 = .ok (.iload_n 3, 1) := by decide +kernel
theorem dL_1016 : decode code 1016 = .ok (.iconst 1, 1) := by decide +kernel
theorem dL_1017 : decode code 1017 = .ok (.iadd, 1) := by decide +kernel
theorem dL_1018 : decode code 1018 = .ok (.iaload, 1) := by decide +kernel
theorem dL_1019 : decode code 1019 = .ok (.aload_n 0, 1) := by decide +kernel
theorem dL_1020 : decode code 1020 = .ok (.iload_n 3, 1) := by decide +kernel
theorem dL_1021 : decode code 1021 = .ok (.iconst 2, 1) := by decide +kernel
theorem dL_1022 : decode code 1022 = .ok (.iadd, 1) := by decide +kernel
theorem dL_1023 : decode code 1023 = .ok (.iaload, 1) := by decide +kernel
theorem dL_1024 : decode code 1024 = .ok (.invokevirtual 142, 3) := by decide +kernel
theorem dL_1027 : decode code 1027 = .ok (.if_icmp .eq 374, 3) := by decide +kernel
theorem dL_1032 : decode code 1032 = .ok (.aload_n 1, 1) := by decide +kernel
theorem dL_1033 : decode code 1033 = .ok (.aload_n 0, 1) := by decide +kernel
theorem dL_1034 : decode code 1034 = .ok (.iload_n 3, 1) := by decide +kernel
theorem dL_1035 : decode code 1035 = .ok (.iconst 1, 1) := by decide +kernel
theorem dL_1036 : decode code 1036 = .ok (.iadd, 1) := by decide +kernel
theorem dL_1037 : decode code 1037 = .ok (.iaload, 1) := by decide +kernel
theorem dL_1038 : decode code 1038 = .ok (.invokevirtual 143, 3) := by decide +kernel
theorem dL_1041 : decode code 1041 = .ok (.aload_n 2, 1) := by decide +kernel
theorem dL_1042 : decode code 1042 = .ok (.aload_n 0, 1) := by decide +kernel
theorem dL_1043 : decode code 1043 = .ok (.iload_n 3, 1) := by decide +kernel
theorem dL_1044 : decode code 1044 = .ok (.iconst 1, 1) := by decide +kernel
theorem dL_1045 : decode code 1045 = .ok (.iadd, 1) := by decide +kernel
theorem dL_1046 : decode code 1046 = .ok (.iaload, 1) := by decide +kernel
theorem dL_1047 : decode code 1047 = .ok (.invokevirtual 146, 3) := by decide +kernel
theorem dL_1050 : decode code 1050 = .ok (.if_icmp .eq 351, 3) := by decide +kernel
theorem dL_1055 : decode code 1055 = .ok (.aload_n 1, 1) := by decide +kernel
theorem dL_1056 : decode code 1056 = .ok (.aload_n 0, 1) := by decide +kernel
theorem dL_1057 : decode code 1057 = .ok (.iload_n 3, 1) := by decide +kernel
theorem dL_1058 : decode code 1058 = .ok (.iconst 1, 1) := by decide +kernel
theorem dL_1059 : decode code 1059 = .ok (.iadd, 1) := by decide +kernel
theorem dL_1060 : decode code 1060 = .ok (.iaload, 1) := by decide +kernel
theorem dL_1061 : decode code 1061 = .ok (.aload_n 0, 1) := by decide +kernel
theorem dL_1062 : decode code 1062 = .ok (.iload_n 3, 1) := by decide +kernel
theorem dL_1063 : decode code 1063 = .ok (.iconst 2, 1) := by decide +kernel
theorem dL_1064 : decode code 1064 = .ok (.iadd, 1) := by decide +kernel
theorem dL_1065 : decode code 1065 = .ok (.iaload, 1) := by decide +kernel
theorem dL_1066 : decode code 1066 = .ok (.invokevirtual 147, 3) := by decide +kernel
theorem dL_1069 : decode code 1069 = .ok (.aload_n 2, 1) := by decide +kernel
theorem dL_1070 : decode code 1070 = .ok (.aload_n 0, 1) := by decide +kernel
theorem dL_1071 : decode code 1071 = .ok (.iload_n 3, 1) := by decide +kernel
theorem dL_1072 : decode code 1072 = .ok (.iconst 1, 1) := by decide +kernel
theorem dL_1073 : decode code 1073 = .ok (.iadd, 1) := by decide +kernel
theorem dL_1074 : decode code 1074 = .ok (.iaload, 1) := by decide +kernel
theorem dL_1075 : decode code 1075 = .ok (.aload_n 0, 1) := by decide +kernel
theorem dL_1076 : decode code 1076 = .ok (.iload_n 3, 1) := by decide +kernel
theorem dL_1077 : decode code 1077 = .ok (.iconst 2, 1) := by decide +kernel
theorem dL_1078 : decode code 1078 = .ok (.iadd, 1) := by decide +kernel
theorem dL_1079 : decode code 1079 = .ok (.iaload, 1) := by decide +kernel
theorem dL_1080 : decode code 1080 = .ok (.invokevirtual 150, 3) := by decide +kernel
theorem dL_1083 : decode code 1083 = .ok (.if_icmp .eq 318, 3) := by decide +kernel
theorem dL_1088 : decode code 1088 = .ok (.aload_n 1, 1) := by decide +kernel
theorem dL_1089 : decode code 1089 = .ok (.aload_n 0, 1) := by decide +kernel
theorem dL_1090 : decode code 1090 = .ok (.iload_n 3, 1) := by decide +kernel
theorem dL_1091 : decode code 1091 = .ok (.iconst 1, 1) := by decide +kernel
theorem dL_1092 : decode code 1092 = .ok (.iadd, 1) := by decide +kernel
theorem dL_1093 : decode code 1093 = .ok (.iaload, 1) := by decide +kernel
theorem dL_1094 : decode code 1094 = .ok (.aload_n 0, 1) := by decide +kernel
theorem dL_1095 : decode code 1095 = .ok (.iload_n 3, 1) := by decide +kernel
theorem dL_1096 : decode code 1096 = .ok (.iconst 2, 1) := by decide +kernel
theorem dL_1097 : decode code 1097 = .ok (.iadd, 1) := by decide +kernel
theorem dL_1098 : decode code 1098 = .ok (.iaload, 1) := by decide +kernel
theorem dL_1099 : decode code 1099 = .ok (.invokevirtual 151, 3) := by decide +kernel
theorem dL_1102 : decode code 1102 = .ok (.aload_n 2, 1) := by decide +kernel
theorem dL_1103 : decode code 1103 = .ok (.aload_n 0, 1) := by decide +kernel
theorem dL_1104 : decode code 1104 = .ok (.iload_n 3, 1) := by decide +kernel
theorem dL_1105 : decode code 1105 = .ok (.iconst 1, 1) := by decide +kernel
theorem dL_1106 : decode code 1106 = .ok (.iadd, 1) := by decide +kernel
theorem dL_1107 : decode code 1107 = .ok (.iaload, 1) := by decide +kernel
theorem dL_1108 : decode code 1108 = .ok (.aload_n 0, 1) := by decide +kernel
theorem dL_1109 : decode code 1109 = .ok (.iload_n 3, 1) := by decide +kernel
theorem dL_1110 : decode code 1110 = .ok (.iconst 2, 1) := by decide +kernel
theorem dL_1111 : decode code 1111 = .ok (.iadd, 1) := by decide +kernel
theorem dL_1112 : decode code 1112 = .ok (.iaload, 1) := by decide +kernel
theorem dL_1113 : decode code 1113 = .ok (.invokevirtual 154, 3) := by decide +kernel
theorem dL_1116 : decode code 1116 = .ok (.if_icmp .eq 285, 3) := by decide +kernel
theorem dL_1121 : decode code 1121 = .ok (.aload_n 1, 1) := by decide +kernel
theorem dL_1122 : decode code 1122 = .ok (.aload_n 0, 1) := by decide +kernel
theorem dL_1123 : decode code 1123 = .ok (.iload_n 3, 1) := by decide +kernel
theorem dL_1124 : decode code 1124 = .ok (.iconst 1, 1) := by decide +kernel
theorem dL_1125 : decode code 1125 = .ok (.iadd, 1) := by decide +kernel
theorem dL_1126 : decode code 1126 = .ok (.iaload, 1) := by decide +kernel
theorem dL_1127 : decode code 1127 = .ok (.aload_n 0, 1) := by decide +kernel
theorem dL_1128 : decode code 1128 = .ok (.iload_n 3, 1) := by decide +kernel
theorem dL_1129 : decode code 1129 = .ok (.iconst 2, 1) := by decide +kernel
theorem dL_1130 : decode code 1130 = .ok (.iadd, 1) := by decide +kernel
theorem dL_1131 : decode code 1131 = .ok (.iaload, 1) := by decide +kernel
theorem dL_1132 : decode code 1132 = .ok (.aload_n 0, 1) := by decide +kernel
theorem dL_1133 : decode code 1133 = .ok (.iload_n 3, 1) := by decide +kernel
theorem dL_1134 : decode code 1134 = .ok (.iconst 3, 1) := by decide +kernel
theorem dL_1135 : decode code 1135 = .ok (.iadd, 1) := by decide +kernel
theorem dL_1136 : decode code 1136 = .ok (.iaload, 1) := by decide +kernel
theorem dL_1137 : decode code 1137 = .ok (.invokevirtual 155, 3) := by decide +kernel
theorem dL_1140 : decode code 1140 = .ok (.aload_n 2, 1) := by decide +kernel
theorem dL_1141 : decode code 1141 = .ok (.aload_n 0, 1) := by decide +kernel
theorem dL_1142 : decode code 1142 = .ok (.iload_n 3, 1) := by decide +kernel
theorem dL_1143 : decode code 1143 = .ok (.iconst 1, 1) := by decide +kernel
theorem dL_1144 : decode code 1144 = .ok (.iadd, 1) := by decide +kernel
theorem dL_1145 : decode code 1145 = .ok (.iaload, 1) := by decide +kernel
theorem dL_1146 : decode code 1146 = .ok (.aload_n 0, 1) := by decide +kernel
theorem dL_1147 : decode code 1147 = .ok (.iload_n 3, 1) := by decide +kernel
theorem dL_1148 : decode code 1148 = .ok (.iconst 2, 1) := by decide +kernel
theorem dL_1149 : decode code 1149 = .ok (.iadd, 1) := by decide +kernel
theorem dL_1150 : decode code 1150 = .ok (.iaload, 1) := by decide +kernel
theorem dL_1151 : decode code 1151 = .ok (.aload_n 0, 1) := by decide +kernel
theorem dL_1152 : decode code 1152 = .ok (.iload_n 3, 1) := by decide +kernel
theorem dL_1153 : decode code 1153 = .ok (.iconst 3, 1) := by decide +kernel
theorem dL_1154 : decode code 1154 = .ok (.iadd, 1) := by decide +kernel
theorem dL_1155 : decode code 1155 = .ok (.iaload, 1) := by decide +kernel
theorem dL_1156 : decode code 1156 = .ok (.invokevirtual 158, 3) := by decide +kernel
theorem dL_1159 : decode code 1159 = .ok (.if_icmp .eq 242, 3) := by decide +kernel
theorem dL_1164 : decode code 1164 = .ok (.aload_n 1, 1) := by decide +kernel
theorem dL_1165 : decode code 1165 = .ok (.aload_n 0, 1) := by decide +kernel
theorem dL_1166 : decode code 1166 = .ok (.iload_n 3, 1) := by decide +kernel
theorem dL_1167 : decode code 1167 = .ok (.iconst 1, 1) := by decide +kernel
theorem dL_1168 : decode code 1168 = .ok (.iadd, 1) := by decide +kernel
theorem dL_1169 : decode code 1169 = .ok (.iaload, 1) := by decide +kernel
theorem dL_1170 : decode code 1170 = .ok (.aload_n 0, 1) := by decide +kernel
theorem dL_1171 : decode code 1171 = .ok (.iload_n 3, 1) := by decide +kernel
theorem dL_1172 : decode code 1172 = .ok (.iconst 2, 1) := by decide +kernel
theorem dL_1173 : decode code 1173 = .ok (.iadd, 1) := by decide +kernel
theorem dL_1174 : decode code 1174 = .ok (.iaload, 1) := by decide +kernel
theorem dL_1175 : decode code 1175 = .ok (.aload_n 0, 1) := by decide +kernel
theorem dL_1176 : decode code 1176 = .ok (.iload_n 3, 1) := by decide +kernel
theorem dL_1177 : decode code 1177 = .ok (.iconst 3, 1) := by decide +kernel
theorem dL_1178 : decode code 1178 = .ok (.iadd, 1) := by decide +kernel
theorem dL_1179 : decode code 1179 = .ok (.iaload, 1) := by decide +kernel
theorem dL_1180 : decode code 1180 = .ok (.invokevirtual 159, 3) := by decide +kernel
theorem dL_1183 : decode code 1183 = .ok (.aload_n 2, 1) := by decide +kernel
theorem dL_1184 : decode code 1184 = .ok (.aload_n 0, 1) := by decide +kernel
theorem dL_1185 : decode code 1185 = .ok (.iload_n 3, 1) := by decide +kernel
theorem dL_1186 : decode code 1186 = .ok (.iconst 1, 1) := by decide +kernel
theorem dL_1187 : decode code 1187 = .ok (.iadd, 1) := by decide +kernel
theorem dL_1188 : decode code 1188 = .ok (.iaload, 1) := by decide +kernel
theorem dL_1189 : decode code 1189 = .ok (.aload_n 0, 1) := by decide +kernel
theorem dL_1190 : decode code 1190 = .ok (.iload_n 3, 1) := by decide +kernel
theorem dL_1191 : decode code 1191 = .ok (.iconst 2, 1) := by decide +kernel
theorem dL_1192 : decode code 1192 = .ok (.iadd, 1) := by decide +kernel
theorem dL_1193 : decode code 1193 = .ok (.iaload, 1) := by decide +kernel
theorem dL_1194 : decode code 1194 = .ok (.aload_n 0, 1) := by decide +kernel
theorem dL_1195 : decode code 1195 = .ok (.iload_n 3, 1) := by decide +kernel
theorem dL_1196 : decode code 1196 = .ok (.iconst 3, 1) := by decide +kernel
theorem dL_1197 : decode code 1197 = .ok (.iadd, 1) := by decide +kernel
theorem dL_1198 : decode code 1198 = .ok (.iaload, 1) := by decide +kernel
theorem dL_1199 : decode code 1199 = .ok (.invokevirtual 162, 3) := by decide +kernel
theorem dL_1202 : decode code 1202 = .ok (.if_icmp .eq 199, 3) := by decide +kernel
theorem dL_1207 : decode code 1207 = .ok (.aload_n 1, 1) := by decide +kernel
theorem dL_1208 : decode code 1208 = .ok (.aload_n 0, 1) := by decide +kernel
theorem dL_1209 : decode code 1209 = .ok (.iload_n 3, 1) := by decide +kernel
theorem dL_1210 : decode code 1210 = .ok (.iconst 1, 1) := by decide +kernel
theorem dL_1211 : decode code 1211 = .ok (.iadd, 1) := by decide +kernel
theorem dL_1212 : decode code 1212 = .ok (.iaload, 1) := by decide +kernel
theorem dL_1213 : decode code 1213 = .ok (.aload_n 0, 1) := by decide +kernel
theorem dL_1214 : decode code 1214 = .ok (.iload_n 3, 1) := by decide +kernel
theorem dL_1215 : decode code 1215 = .ok (.iconst 2, 1) := by decide +kernel
theorem dL_1216 : decode code 1216 = .ok (.iadd, 1) := by decide +kernel
theorem dL_1217 : decode code 1217 = .ok (.iaload, 1) := by decide +kernel
theorem dL_1218 : decode code 1218 = .ok (.aload_n 0, 1) := by decide +kernel
theorem dL_1219 : decode code 1219 = .ok (.iload_n 3, 1) := by decide +kernel
theorem dL_1220 : decode code 1220 = .ok (.iconst 3, 1) := by decide +kernel
theorem dL_1221 : decode code 1221 = .ok (.iadd, 1) := by decide +kernel
theorem dL_1222 : decode code 1222 = .ok (.iaload, 1) := by decide +kernel
theorem dL_1223 : decode code 1223 = .ok (.aload_n 0, 1) := by decide +kernel
theorem dL_1224 : decode code 1224 = .ok (.iload_n 3, 1) := by decide +kernel
theorem dL_1225 : decode code 1225 = .ok (.iconst 4, 1) := by decide +kernel
theorem dL_1226 : decode code 1226 = .ok (.iadd, 1) := by decide +kernel
theorem dL_1227 : decode code 1227 = .ok (.iaload, 1) := by decide +kernel
theorem dL_1228 : decode code 1228 = .ok (.aload_n 0, 1) := by decide +kernel
theorem dL_1229 : decode code 1229 = .ok (.iload_n 3, 1) := by decide +kernel
theorem dL_1230 : decode code 1230 = .ok (.iconst 5, 1) := by decide +kernel
theorem dL_1231 : decode code 1231 = .ok (.iadd, 1) := by decide +kernel
theorem dL_1232 : decode code 1232 = .ok (.iaload, 1) := by decide +kernel
theorem dL_1233 : decode code 1233 = .ok (.invokevirtual 163, 3) := by decide +kernel
theorem dL_1236 : decode code 1236 = .ok (.aload_n 2, 1) := by decide +kernel
theorem dL_1237 : decode code 1237 = .ok (.aload_n 0, 1) := by decide +kernel
theorem dL_1238 : decode code 1238 = .ok (.iload_n 3, 1) := by decide +kernel
theorem dL_1239 : decode code 1239 = .ok (.iconst 1, 1) := by decide +kernel
theorem dL_1240 : decode code 1240 = .ok (.iadd, 1) := by decide +kernel
theorem dL_1241 : decode code 1241 = .ok (.iaload, 1) := by decide +kernel
theorem dL_1242 : decode code 1242 = .ok (.aload_n 0, 1) := by decide +kernel
theorem dL_1243 : decode code 1243 = .ok (.iload_n 3, 1) := by decide +kernel
theorem dL_1244 : decode code 1244 = .ok (.iconst 2, 1) := by decide +kernel
theorem dL_1245 : decode code 1245 = .ok (.iadd, 1) := by decide +kernel
theorem dL_1246 : decode code 1246 = .ok (.iaload, 1) := by decide +kernel
theorem dL_1247 : decode code 1247 = .ok (.aload_n 0, 1) := by decide +kernel
theorem dL_1248 : decode code 1248 = .ok (.iload_n 3, 1) := by decide +kernel
theorem dL_1249 : decode code 1249 = .ok (.iconst 3, 1) := by decide +kernel
theorem dL_1250 : decode code 1250 = .ok (.iadd, 1) := by decide +kernel
theorem dL_1251 : decode code 1251 = .ok (.iaload, 1) := by decide +kernel
theorem dL_1252 : decode code 1252 = .ok (.aload_n 0, 1) := by decide +kernel
theorem dL_1253 : decode code 1253 = .ok (.iload_n 3, 1) := by decide +kernel
theorem dL_1254 : decode code 1254 = .ok (.iconst 4, 1) := by decide +kernel
theorem dL_1255 : decode code 1255 = .ok (.iadd, 1) := by decide +kernel
theorem dL_1256 : decode code 1256 = .ok (.iaload, 1) := by decide +kernel
theorem dL_1257 : decode code 1257 = .ok (.aload_n 0, 1) := by decide +kernel
theorem dL_1258 : decode code 1258 = .ok (.iload_n 3, 1) := by decide +kernel
theorem dL_1259 : decode code 1259 = .ok (.iconst 5, 1) := by decide +kernel
theorem dL_1260 : decode code 1260 = .ok (.iadd, 1) := by decide +kernel
theorem dL_1261 : decode code 1261 = .ok (.iaload, 1) := by decide +kernel
theorem dL_1262 : decode code 1262 = .ok (.invokevirtual 167, 3) := by decide +kernel
theorem dL_1265 : decode code 1265 = .ok (.if_icmp .eq 136, 3) := by decide +kernel
theorem dL_1270 : decode code 1270 = .ok (.aload_n 1, 1) := by decide +kernel
theorem dL_1271 : decode code 1271 = .ok (.aload_n 0, 1) := by decide +kernel
theorem dL_1272 : decode code 1272 = .ok (.iload_n 3, 1) := by decide +kernel
theorem dL_1273 : decode code 1273 = .ok (.iconst 1, 1) := by decide +kernel
theorem dL_1274 : decode code 1274 = .ok (.iadd, 1) := by decide +kernel
theorem dL_1275 : decode code 1275 = .ok (.iaload, 1) := by decide +kernel
theorem dL_1276 : decode code 1276 = .ok (.invokevirtual 168, 3) := by decide +kernel
theorem dL_1279 : decode code 1279 = .ok (.aload_n 2, 1) := by decide +kernel
theorem dL_1280 : decode code 1280 = .ok (.aload_n 0, 1) := by decide +kernel
theorem dL_1281 : decode code 1281 = .ok (.iload_n 3, 1) := by decide +kernel
theorem dL_1282 : decode code 1282 = .ok (.iconst 1, 1) := by decide +kernel
theorem dL_1283 : decode code 1283 = .ok (.iadd, 1) := by decide +kernel
theorem dL_1284 : decode code 1284 = .ok (.iaload, 1) := by decide +kernel
theorem dL_1285 : decode code 1285 = .ok (.invokevirtual 171, 3) := by decide +kernel
theorem dL_1288 : decode code 1288 = .ok (.if_icmp .eq 113, 3) := by decide +kernel
theorem dL_1293 : decode code 1293 = .ok (.aload_n 1, 1) := by decide +kernel
theorem dL_1294 : decode code 1294 = .ok (.aload_n 0, 1) := by decide +kernel
theorem dL_1295 : decode code 1295 = .ok (.iload_n 3, 1) := by decide +kernel
theorem dL_1296 : decode code 1296 = .ok (.iconst 1, 1) := by decide +kernel
theorem dL_1297 : decode code 1297 = .ok (.iadd, 1) := by decide +kernel
theorem dL_1298 : decode code 1298 = .ok (.iaload, 1) := by decide +kernel
theorem dL_1299 : decode code 1299 = .ok (.invokevirtual 172, 3) := by decide +kernel
theorem dL_1302 : decode code 1302 = .ok (.aload_n 2, 1) := by decide +kernel
theorem dL_1303 : decode code 1303 = .ok (.aload_n 0, 1) := by decide +kernel
theorem dL_1304 : decode code 1304 = .ok (.iload_n 3, 1) := by decide +kernel
theorem dL_1305 : decode code 1305 = .ok (.iconst 1, 1) := by decide +kernel
theorem dL_1306 : decode code 1306 = .ok (.iadd, 1) := by decide +kernel
theorem dL_1307 : decode code 1307 = .ok (.iaload, 1) := by decide +kernel
theorem dL_1308 : decode code 1308 = .ok (.invokevirtual 175, 3) := by decide +kernel
theorem dL_1311 : decode code 1311 = .ok (.if_icmp .eq 90, 3) := by decide +kernel
theorem dL_1316 : decode code 1316 = .ok (.aload_n 1, 1) := by decide +kernel
theorem dL_1317 : decode code 1317 = .ok (.invokevirtual 176, 3) := by decide +kernel
theorem dL_1320 : decode code 1320 = .ok (.aload_n 2, 1) := by decide +kernel
theorem dL_1321 : decode code 1321 = .ok (.invokevirtual 179, 3) := by decide +kernel
theorem dL_1324 : decode code 1324 = .ok (.if_icmp .eq 77, 3) := by decide +kernel
theorem dL_1329 : decode code 1329 = .ok (.aload_n 1, 1) := by decide +kernel
theorem dL_1330 : decode code 1330 = .ok (.invokevirtual 180, 3) := by decide +kernel
theorem dL_1333 : decode code 1333 = .ok (.aload_n 2, 1) := by decide +kernel
theorem dL_1334 : decode code 1334 = .ok (.invokevirtual 183, 3) := by decide +kernel
theorem dL_1337 : decode code 1337 = .ok (.if_icmp .eq 64, 3) := by decide +kernel
theorem dL_1342 : decode code 1342 = .ok (.aload_n 1, 1) := by decide +kernel
theorem dL_1343 : decode code 1343 = .ok (.invokevirtual 184, 3) := by decide +kernel
theorem dL_1346 : decode code 1346 = .ok (.aload_n 2, 1) := by decide +kernel
theorem dL_1347 : decode code 1347 = .ok (.invokevirtual 187, 3) := by decide +kernel
theorem dL_1350 : decode code 1350 = .ok (.if_icmp .eq 51, 3) := by decide +kernel
theorem dL_1355 : decode code 1355 = .ok (.aload_n 1, 1) := by decide +kernel
theorem dL_1356 : decode code 1356 = .ok (.aload_n 0, 1) := by decide +kernel
theorem dL_1357 : decode code 1357 = .ok (.iload_n 3, 1) := by decide +kernel
theorem dL_1358 : decode code 1358 = .ok (.iconst 1, 1) := by decide +kernel
theorem dL_1359 : decode code 1359 = .ok (.iadd, 1) := by decide +kernel
theorem dL_1360 : decode code 1360 = .ok (.iaload, 1) := by decide +kernel
theorem dL_1361 : decode code 1361 = .ok (.invokevirtual 188, 3) := by decide +kernel
theorem dL_1364 : decode code 1364 = .ok (.aload_n 2, 1) := by decide +kernel
theorem dL_1365 : decode code 1365 = .ok (.aload_n 0, 1) := by decide +kernel
theorem dL_1366 : decode code 1366 = .ok (.iload_n 3, 1) := by decide +kernel
theorem dL_1367 : decode code 1367 = .ok (.iconst 1, 1) := by decide +kernel
theorem dL_1368 : decode code 1368 = .ok (.iadd, 1) := by decide +kernel
theorem dL_1369 : decode code 1369 = .ok (.iaload, 1) := by decide +kernel
theorem dL_1370 : decode code 1370 = .ok (.invokevirtual 191, 3) := by decide +kernel
theorem dL_1373 : decode code 1373 = .ok (.if_icmp .eq 28, 3) := by decide +kernel
theorem dL_1378 : decode code 1378 = .ok (.aload_n 1, 1) := by decide +kernel
theorem dL_1379 : decode code 1379 = .ok (.aload_n 0, 1) := by decide +kernel
theorem dL_1380 : decode code 1380 = .ok (.iload_n 3, 1) := by decide +kernel
theorem dL_1381 : decode code 1381 = .ok (.iconst 1, 1) := by decide +kernel
theorem dL_1382 : decode code 1382 = .ok (.iadd, 1) := by decide +kernel
theorem dL_1383 : decode code 1383 = .ok (.iaload, 1) := by decide +kernel
theorem dL_1384 : decode code 1384 = .ok (.invokevirtual 192, 3) := by decide +kernel
theorem dL_1387 : decode code 1387 = .ok (.aload_n 2, 1) := by decide +kernel
theorem dL_1388 : decode code 1388 = .ok (.aload_n 0, 1) := by decide +kernel
theorem dL_1389 : decode code 1389 = .ok (.iload_n 3, 1) := by decide +kernel
theorem dL_1390 : decode code 1390 = .ok (.iconst 1, 1) := by decide +kernel
theorem dL_1391 : decode code 1391 = .ok (.iadd, 1) := by decide +kernel
theorem dL_1392 : decode code 1392 = .ok (.iaload, 1) := by decide +kernel
theorem dL_1393 : decode code 1393 = .ok (.invokevirtual 195, 3) := by decide +kernel
theorem dL_1396 : decode code 1396 = .ok (.if_icmp .eq 5, 3) := by decide +kernel
section LC
variable {p : Program} {l : Launch} {e : Env} {s : State} {m : MethodId} {args : Array Value} {below : List Frame} {meth : Method} {c : Code} {H : Heap} {locs : List Loc} {cells slots : Nat} {Q : State → Prop}
variable {ls : Array Slot} {D : va_G} {Ts : List Cond}
variable {cy : Nat → ClassId} {adX adM adK adV : Nat → Nat} {b L i : Nat} {xs : Nat → Int32} {MX MY : Mm} {tl : List (Nat × Value)}
theorem case_side (hC : CallFix p m c code 4 s args Ts RL) (hg : ∀ w ∈ gW, w ∈ Ts) (hF : LF D cy adX adM adK adV b s) (hw : LW D cy adX adM b L xs s MX MY H locs) (hr : Rel MX MY) (hl : lv_has ls 4 ((0, .ref b) :: (1, .ref (adX 0)) :: (2, .ref (adM 0)) :: (3, .int (nI i)) :: tl)) (hX : va_X b L xs s s.heap) (hi : i + 6 ≤ L) (hL : L ≤ 384) (hf : cells ≤ room_1.cells ∧ slots ≤ room_1.slots)
    (kk : ∀ (MX' MY' : Mm) (H1 : Heap) (locs1 : List Loc), LW D cy adX adM b L xs s MX' MY' H1 locs1 → Rel MX' MY' → W p l e room_1 s m args below meth c H1 locs1 cells slots Q (F0 m 1401 ls [])) : W p l e room_1 s m args below meth c H locs cells slots Q (F0 m 224 ls []) := by
  have hx := hC.1
  have hb := hC.2.1
  have hbl := hF.2.2.2.2.2.1
  obtain ⟨X', Y', r, e1, e2, e3⟩ := B_side hr (xs (i + 1)) (xs (i + 2))
  refine lv_aload_n hx hb dL_224 rfl (lv_at hl 1 rfl) ?_
  refine l_arg (k := 1) hx hb hl hX hbl hw.2.2.2 (by decide) (by omega) hL dL_225 dL_226 dL_227 dL_228 dL_229 ?_
  refine l_arg (k := 2) hx hb hl hX hbl hw.2.2.2 (by decide) (by omega) hL dL_230 dL_231 dL_232 dL_233 dL_234 ?_
  refine l_callXi (As := [.int (xs (i + 1)), .int (xs (i + 2))]) (rest := []) hC hF hw (c_X6_side l D cy adX adK adV MX 0 (xs (i + 1)) (xs (i + 2)) (X', r) e1) (gW_goodV hg qw363 qw360 qw361 qw362 qw60) hdX6_side rfl ⟨Nat.le_of_ble_eq_true rfl, Nat.le_of_ble_eq_true rfl⟩ rfl rfl rfl rfl hl.1 rfl (Nat.le_of_ble_eq_true rfl) hf dL_235 (fun H1 locs1 hw1 => ?_)
  refine lv_aload_n hx hb dL_238 rfl (lv_at hl 2 rfl) ?_
  refine l_arg (k := 1) hx hb hl hX hbl hw1.2.2.2 (by decide) (by omega) hL dL_239 dL_240 dL_241 dL_242 dL_243 ?_
  refine l_arg (k := 2) hx hb hl hX hbl hw1.2.2.2 (by decide) (by omega) hL dL_244 dL_245 dL_246 dL_247 dL_248 ?_
  refine l_callMi (As := [.int (xs (i + 1)), .int (xs (i + 2))]) (rest := [.int r]) hC hF hw1 (c_X7_side l D cy adM adK adV MY 0 (xs (i + 1)) (xs (i + 2)) (Y', r) e2) (gW_goodV hg qw982 qw979 qw980 qw981 qw67) hdX7_side rfl ⟨Nat.le_of_ble_eq_true rfl, Nat.le_of_ble_eq_true rfl⟩ rfl rfl rfl rfl hl.1 rfl (Nat.le_of_ble_eq_true rfl) hf dL_249 (fun H2 locs2 hw2 => ?_)
  exact lv_icmp_eq (tgt := 1401) hx hb dL_252 (by decide) (fun _ => kk X' Y' H2 locs2 hw2 e3) (fun z => absurd rfl z)
theorem case_sideOf (hC : CallFix p m c code 4 s args Ts RL) (hg : ∀ w ∈ gW, w ∈ Ts) (hF : LF D cy adX adM adK adV b s) (hw : LW D cy adX adM b L xs s MX MY H locs) (hr : Rel MX MY) (hl : lv_has ls 4 ((0, .ref b) :: (1, .ref (adX 0)) :: (2, .ref (adM 0)) :: (3, .int (nI i)) :: tl)) (hX : va_X b L xs s s.heap) (hi : i + 6 ≤ L) (hL : L ≤ 384) (hf : cells ≤ room_1.cells ∧ slots ≤ room_1.slots)
    (kk : ∀ (MX' MY' : Mm) (H1 : Heap) (locs1 : List Loc), LW D cy adX adM b L xs s MX' MY' H1 locs1 → Rel MX' MY' → W p l e room_1 s m args below meth c H1 locs1 cells slots Q (F0 m 1401 ls [])) : W p l e room_1 s m args below meth c H locs cells slots Q (F0 m 257 ls []) := by
  have hx := hC.1
  have hb := hC.2.1
  have hbl := hF.2.2.2.2.2.1
  obtain ⟨X', Y', r, e1, e2, e3⟩ := B_sideOf hr (xs (i + 1)) (xs (i + 2))
  refine lv_aload_n hx hb dL_257 rfl (lv_at hl 1 rfl) ?_
  refine l_arg (k := 1) hx hb hl hX hbl hw.2.2.2 (by decide) (by omega) hL dL_258 dL_259 dL_260 dL_261 dL_262 ?_
  refine l_arg (k := 2) hx hb hl hX hbl hw.2.2.2 (by decide) (by omega) hL dL_263 dL_264 dL_265 dL_266 dL_267 ?_
  refine l_callXi (As := [.int (xs (i + 1)), .int (xs (i + 2))]) (rest := []) hC hF hw (c_X6_sideOf l D cy adX adK adV MX 0 (xs (i + 1)) (xs (i + 2)) (X', r) e1) (gW_goodV hg qw386 qw383 qw384 qw385 qw60) hdX6_sideOf rfl ⟨Nat.le_of_ble_eq_true rfl, Nat.le_of_ble_eq_true rfl⟩ rfl rfl rfl rfl hl.1 rfl (Nat.le_of_ble_eq_true rfl) hf dL_268 (fun H1 locs1 hw1 => ?_)
  refine lv_aload_n hx hb dL_271 rfl (lv_at hl 2 rfl) ?_
  refine l_arg (k := 1) hx hb hl hX hbl hw1.2.2.2 (by decide) (by omega) hL dL_272 dL_273 dL_274 dL_275 dL_276 ?_
  refine l_arg (k := 2) hx hb hl hX hbl hw1.2.2.2 (by decide) (by omega) hL dL_277 dL_278 dL_279 dL_280 dL_281 ?_
  refine l_callMi (As := [.int (xs (i + 1)), .int (xs (i + 2))]) (rest := [.int r]) hC hF hw1 (c_X7_sideOf l D cy adM adK adV MY 0 (xs (i + 1)) (xs (i + 2)) (Y', r) e2) (gW_goodV hg qw998 qw995 qw996 qw997 qw67) hdX7_sideOf rfl ⟨Nat.le_of_ble_eq_true rfl, Nat.le_of_ble_eq_true rfl⟩ rfl rfl rfl rfl hl.1 rfl (Nat.le_of_ble_eq_true rfl) hf dL_282 (fun H2 locs2 hw2 => ?_)
  exact lv_icmp_eq (tgt := 1401) hx hb dL_285 (by decide) (fun _ => kk X' Y' H2 locs2 hw2 e3) (fun z => absurd rfl z)
theorem case_change (hC : CallFix p m c code 4 s args Ts RL) (hg : ∀ w ∈ gW, w ∈ Ts) (hF : LF D cy adX adM adK adV b s) (hw : LW D cy adX adM b L xs s MX MY H locs) (hr : Rel MX MY) (hl : lv_has ls 4 ((0, .ref b) :: (1, .ref (adX 0)) :: (2, .ref (adM 0)) :: (3, .int (nI i)) :: tl)) (hX : va_X b L xs s s.heap) (hi : i + 6 ≤ L) (hL : L ≤ 384) (hf : cells ≤ room_1.cells ∧ slots ≤ room_1.slots)
    (kk : ∀ (MX' MY' : Mm) (H1 : Heap) (locs1 : List Loc), LW D cy adX adM b L xs s MX' MY' H1 locs1 → Rel MX' MY' → W p l e room_1 s m args below meth c H1 locs1 cells slots Q (F0 m 1401 ls [])) : W p l e room_1 s m args below meth c H locs cells slots Q (F0 m 290 ls []) := by
  have hx := hC.1
  have hb := hC.2.1
  have hbl := hF.2.2.2.2.2.1
  obtain ⟨X', Y', r, e1, e2, e3⟩ := B_change hr (xs (i + 1)) (xs (i + 2)) (xs (i + 3))
  refine lv_aload_n hx hb dL_290 rfl (lv_at hl 1 rfl) ?_
  refine l_arg (k := 1) hx hb hl hX hbl hw.2.2.2 (by decide) (by omega) hL dL_291 dL_292 dL_293 dL_294 dL_295 ?_
  refine l_arg (k := 2) hx hb hl hX hbl hw.2.2.2 (by decide) (by omega) hL dL_296 dL_297 dL_298 dL_299 dL_300 ?_
  refine l_arg (k := 3) hx hb hl hX hbl hw.2.2.2 (by decide) (by omega) hL dL_301 dL_302 dL_303 dL_304 dL_305 ?_
  refine l_callXi (As := [.int (xs (i + 1)), .int (xs (i + 2)), .int (xs (i + 3))]) (rest := []) hC hF hw (c_X6_change l D cy adX adK adV MX 0 (xs (i + 1)) (xs (i + 2)) (xs (i + 3)) (X', r) e1) (gW_goodV hg qw410 qw407 qw408 qw409 qw60) hdX6_change rfl ⟨Nat.le_of_ble_eq_true rfl, Nat.le_of_ble_eq_true rfl⟩ rfl rfl rfl rfl hl.1 rfl (Nat.le_of_ble_eq_true rfl) hf dL_306 (fun H1 locs1 hw1 => ?_)
  refine lv_aload_n hx hb dL_309 rfl (lv_at hl 2 rfl) ?_
  refine l_arg (k := 1) hx hb hl hX hbl hw1.2.2.2 (by decide) (by omega) hL dL_310 dL_311 dL_312 dL_313 dL_314 ?_
  refine l_arg (k := 2) hx hb hl hX hbl hw1.2.2.2 (by decide) (by omega) hL dL_315 dL_316 dL_317 dL_318 dL_319 ?_
  refine l_arg (k := 3) hx hb hl hX hbl hw1.2.2.2 (by decide) (by omega) hL dL_320 dL_321 dL_322 dL_323 dL_324 ?_
  refine l_callMi (As := [.int (xs (i + 1)), .int (xs (i + 2)), .int (xs (i + 3))]) (rest := [.int r]) hC hF hw1 (c_X7_change l D cy adM adK adV MY 0 (xs (i + 1)) (xs (i + 2)) (xs (i + 3)) (Y', r) e2) (gW_goodV hg qw1034 qw1031 qw1032 qw1033 qw67) hdX7_change rfl ⟨Nat.le_of_ble_eq_true rfl, Nat.le_of_ble_eq_true rfl⟩ rfl rfl rfl rfl hl.1 rfl (Nat.le_of_ble_eq_true rfl) hf dL_325 (fun H2 locs2 hw2 => ?_)
  exact lv_icmp_eq (tgt := 1401) hx hb dL_328 (by decide) (fun _ => kk X' Y' H2 locs2 hw2 e3) (fun z => absurd rfl z)
theorem case_game (hC : CallFix p m c code 4 s args Ts RL) (hg : ∀ w ∈ gW, w ∈ Ts) (hF : LF D cy adX adM adK adV b s) (hw : LW D cy adX adM b L xs s MX MY H locs) (hr : Rel MX MY) (hl : lv_has ls 4 ((0, .ref b) :: (1, .ref (adX 0)) :: (2, .ref (adM 0)) :: (3, .int (nI i)) :: tl)) (hX : va_X b L xs s s.heap) (hi : i + 6 ≤ L) (hL : L ≤ 384) (hf : cells ≤ room_1.cells ∧ slots ≤ room_1.slots)
    (kk : ∀ (MX' MY' : Mm) (H1 : Heap) (locs1 : List Loc), LW D cy adX adM b L xs s MX' MY' H1 locs1 → Rel MX' MY' → W p l e room_1 s m args below meth c H1 locs1 cells slots Q (F0 m 1401 ls [])) : W p l e room_1 s m args below meth c H locs cells slots Q (F0 m 333 ls []) := by
  have hx := hC.1
  have hb := hC.2.1
  have hbl := hF.2.2.2.2.2.1
  obtain ⟨X', Y', r, e1, e2, e3⟩ := B_game hr (xs (i + 1)) (xs (i + 2)) (xs (i + 3))
  refine lv_aload_n hx hb dL_333 rfl (lv_at hl 1 rfl) ?_
  refine l_arg (k := 1) hx hb hl hX hbl hw.2.2.2 (by decide) (by omega) hL dL_334 dL_335 dL_336 dL_337 dL_338 ?_
  refine l_arg (k := 2) hx hb hl hX hbl hw.2.2.2 (by decide) (by omega) hL dL_339 dL_340 dL_341 dL_342 dL_343 ?_
  refine l_arg (k := 3) hx hb hl hX hbl hw.2.2.2 (by decide) (by omega) hL dL_344 dL_345 dL_346 dL_347 dL_348 ?_
  refine l_callXi (As := [.int (xs (i + 1)), .int (xs (i + 2)), .int (xs (i + 3))]) (rest := []) hC hF hw (c_X6_game l D cy adX adK adV MX 0 (xs (i + 1)) (xs (i + 2)) (xs (i + 3)) (X', r) e1) (gW_goodV hg qw417 qw414 qw415 qw416 qw60) hdX6_game rfl ⟨Nat.le_of_ble_eq_true rfl, Nat.le_of_ble_eq_true rfl⟩ rfl rfl rfl rfl hl.1 rfl (Nat.le_of_ble_eq_true rfl) hf dL_349 (fun H1 locs1 hw1 => ?_)
  refine lv_aload_n hx hb dL_352 rfl (lv_at hl 2 rfl) ?_
  refine l_arg (k := 1) hx hb hl hX hbl hw1.2.2.2 (by decide) (by omega) hL dL_353 dL_354 dL_355 dL_356 dL_357 ?_
  refine l_arg (k := 2) hx hb hl hX hbl hw1.2.2.2 (by decide) (by omega) hL dL_358 dL_359 dL_360 dL_361 dL_362 ?_
  refine l_arg (k := 3) hx hb hl hX hbl hw1.2.2.2 (by decide) (by omega) hL dL_363 dL_364 dL_365 dL_366 dL_367 ?_
  refine l_callMi (As := [.int (xs (i + 1)), .int (xs (i + 2)), .int (xs (i + 3))]) (rest := [.int r]) hC hF hw1 (c_X7_game l D cy adM adK adV MY 0 (xs (i + 1)) (xs (i + 2)) (xs (i + 3)) (Y', r) e2) (gW_goodV hg qw1038 qw1035 qw1036 qw1037 qw67) hdX7_game rfl ⟨Nat.le_of_ble_eq_true rfl, Nat.le_of_ble_eq_true rfl⟩ rfl rfl rfl rfl hl.1 rfl (Nat.le_of_ble_eq_true rfl) hf dL_368 (fun H2 locs2 hw2 => ?_)
  exact lv_icmp_eq (tgt := 1401) hx hb dL_371 (by decide) (fun _ => kk X' Y' H2 locs2 hw2 e3) (fun z => absurd rfl z)
theorem case_gameOf (hC : CallFix p m c code 4 s args Ts RL) (hg : ∀ w ∈ gW, w ∈ Ts) (hF : LF D cy adX adM adK adV b s) (hw : LW D cy adX adM b L xs s MX MY H locs) (hr : Rel MX MY) (hl : lv_has ls 4 ((0, .ref b) :: (1, .ref (adX 0)) :: (2, .ref (adM 0)) :: (3, .int (nI i)) :: tl)) (hX : va_X b L xs s s.heap) (hi : i + 6 ≤ L) (hL : L ≤ 384) (hf : cells ≤ room_1.cells ∧ slots ≤ room_1.slots)
    (kk : ∀ (MX' MY' : Mm) (H1 : Heap) (locs1 : List Loc), LW D cy adX adM b L xs s MX' MY' H1 locs1 → Rel MX' MY' → W p l e room_1 s m args below meth c H1 locs1 cells slots Q (F0 m 1401 ls [])) : W p l e room_1 s m args below meth c H locs cells slots Q (F0 m 376 ls []) := by
  have hx := hC.1
  have hb := hC.2.1
  have hbl := hF.2.2.2.2.2.1
  obtain ⟨X', Y', r, e1, e2, e3⟩ := B_gameOf hr (xs (i + 1)) (xs (i + 2))
  refine lv_aload_n hx hb dL_376 rfl (lv_at hl 1 rfl) ?_
  refine l_arg (k := 1) hx hb hl hX hbl hw.2.2.2 (by decide) (by omega) hL dL_377 dL_378 dL_379 dL_380 dL_381 ?_
  refine l_arg (k := 2) hx hb hl hX hbl hw.2.2.2 (by decide) (by omega) hL dL_382 dL_383 dL_384 dL_385 dL_386 ?_
  refine l_callXi (As := [.int (xs (i + 1)), .int (xs (i + 2))]) (rest := []) hC hF hw (c_X6_gameOf l D cy adX adK adV MX 0 (xs (i + 1)) (xs (i + 2)) (X', r) e1) (gW_goodV hg qw425 qw422 qw423 qw424 qw60) hdX6_gameOf rfl ⟨Nat.le_of_ble_eq_true rfl, Nat.le_of_ble_eq_true rfl⟩ rfl rfl rfl rfl hl.1 rfl (Nat.le_of_ble_eq_true rfl) hf dL_387 (fun H1 locs1 hw1 => ?_)
  refine lv_aload_n hx hb dL_390 rfl (lv_at hl 2 rfl) ?_
  refine l_arg (k := 1) hx hb hl hX hbl hw1.2.2.2 (by decide) (by omega) hL dL_391 dL_392 dL_393 dL_394 dL_395 ?_
  refine l_arg (k := 2) hx hb hl hX hbl hw1.2.2.2 (by decide) (by omega) hL dL_396 dL_397 dL_398 dL_399 dL_400 ?_
  refine l_callMi (As := [.int (xs (i + 1)), .int (xs (i + 2))]) (rest := [.int r]) hC hF hw1 (c_X7_gameOf l D cy adM adK adV MY 0 (xs (i + 1)) (xs (i + 2)) (Y', r) e2) (gW_goodV hg qw1046 qw1043 qw1044 qw1045 qw67) hdX7_gameOf rfl ⟨Nat.le_of_ble_eq_true rfl, Nat.le_of_ble_eq_true rfl⟩ rfl rfl rfl rfl hl.1 rfl (Nat.le_of_ble_eq_true rfl) hf dL_401 (fun H2 locs2 hw2 => ?_)
  exact lv_icmp_eq (tgt := 1401) hx hb dL_404 (by decide) (fun _ => kk X' Y' H2 locs2 hw2 e3) (fun z => absurd rfl z)
theorem case_swap (hC : CallFix p m c code 4 s args Ts RL) (hg : ∀ w ∈ gW, w ∈ Ts) (hF : LF D cy adX adM adK adV b s) (hw : LW D cy adX adM b L xs s MX MY H locs) (hr : Rel MX MY) (hl : lv_has ls 4 ((0, .ref b) :: (1, .ref (adX 0)) :: (2, .ref (adM 0)) :: (3, .int (nI i)) :: tl)) (hX : va_X b L xs s s.heap) (hi : i + 6 ≤ L) (hL : L ≤ 384) (hf : cells ≤ room_1.cells ∧ slots ≤ room_1.slots)
    (kk : ∀ (MX' MY' : Mm) (H1 : Heap) (locs1 : List Loc), LW D cy adX adM b L xs s MX' MY' H1 locs1 → Rel MX' MY' → W p l e room_1 s m args below meth c H1 locs1 cells slots Q (F0 m 1401 ls [])) : W p l e room_1 s m args below meth c H locs cells slots Q (F0 m 409 ls []) := by
  have hx := hC.1
  have hb := hC.2.1
  have hbl := hF.2.2.2.2.2.1
  obtain ⟨X', Y', r, e1, e2, e3⟩ := B_swap hr (xs (i + 1)) (xs (i + 2))
  refine lv_aload_n hx hb dL_409 rfl (lv_at hl 1 rfl) ?_
  refine l_arg (k := 1) hx hb hl hX hbl hw.2.2.2 (by decide) (by omega) hL dL_410 dL_411 dL_412 dL_413 dL_414 ?_
  refine l_arg (k := 2) hx hb hl hX hbl hw.2.2.2 (by decide) (by omega) hL dL_415 dL_416 dL_417 dL_418 dL_419 ?_
  refine l_callXi (As := [.int (xs (i + 1)), .int (xs (i + 2))]) (rest := []) hC hF hw (c_X6_swap l D cy adX adK adV MX 0 (xs (i + 1)) (xs (i + 2)) (X', r) e1) (gW_goodV hg qw433 qw430 qw431 qw432 qw60) hdX6_swap rfl ⟨Nat.le_of_ble_eq_true rfl, Nat.le_of_ble_eq_true rfl⟩ rfl rfl rfl rfl hl.1 rfl (Nat.le_of_ble_eq_true rfl) hf dL_420 (fun H1 locs1 hw1 => ?_)
  refine lv_aload_n hx hb dL_423 rfl (lv_at hl 2 rfl) ?_
  refine l_arg (k := 1) hx hb hl hX hbl hw1.2.2.2 (by decide) (by omega) hL dL_424 dL_425 dL_426 dL_427 dL_428 ?_
  refine l_arg (k := 2) hx hb hl hX hbl hw1.2.2.2 (by decide) (by omega) hL dL_429 dL_430 dL_431 dL_432 dL_433 ?_
  refine l_callMi (As := [.int (xs (i + 1)), .int (xs (i + 2))]) (rest := [.int r]) hC hF hw1 (c_X7_swap l D cy adM adK adV MY 0 (xs (i + 1)) (xs (i + 2)) (Y', r) e2) (gW_goodV hg qw1054 qw1051 qw1052 qw1053 qw67) hdX7_swap rfl ⟨Nat.le_of_ble_eq_true rfl, Nat.le_of_ble_eq_true rfl⟩ rfl rfl rfl rfl hl.1 rfl (Nat.le_of_ble_eq_true rfl) hf dL_434 (fun H2 locs2 hw2 => ?_)
  exact lv_icmp_eq (tgt := 1401) hx hb dL_437 (by decide) (fun _ => kk X' Y' H2 locs2 hw2 e3) (fun z => absurd rfl z)
theorem case_law (hC : CallFix p m c code 4 s args Ts RL) (hg : ∀ w ∈ gW, w ∈ Ts) (hF : LF D cy adX adM adK adV b s) (hw : LW D cy adX adM b L xs s MX MY H locs) (hr : Rel MX MY) (hl : lv_has ls 4 ((0, .ref b) :: (1, .ref (adX 0)) :: (2, .ref (adM 0)) :: (3, .int (nI i)) :: tl)) (hX : va_X b L xs s s.heap) (hi : i + 6 ≤ L) (hL : L ≤ 384) (hf : cells ≤ room_1.cells ∧ slots ≤ room_1.slots)
    (kk : ∀ (MX' MY' : Mm) (H1 : Heap) (locs1 : List Loc), LW D cy adX adM b L xs s MX' MY' H1 locs1 → Rel MX' MY' → W p l e room_1 s m args below meth c H1 locs1 cells slots Q (F0 m 1401 ls [])) : W p l e room_1 s m args below meth c H locs cells slots Q (F0 m 442 ls []) := by
  have hx := hC.1
  have hb := hC.2.1
  have hbl := hF.2.2.2.2.2.1
  obtain ⟨X', Y', r, e1, e2, e3⟩ := B_law hr (xs (i + 1))
  refine lv_aload_n hx hb dL_442 rfl (lv_at hl 1 rfl) ?_
  refine l_arg (k := 1) hx hb hl hX hbl hw.2.2.2 (by decide) (by omega) hL dL_443 dL_444 dL_445 dL_446 dL_447 ?_
  refine l_callXi (As := [.int (xs (i + 1))]) (rest := []) hC hF hw (c_X6_law l D cy adX adK adV MX 0 (xs (i + 1)) (X', r) e1) (gW_goodV hg qw437 qw434 qw435 qw436 qw60) hdX6_law rfl ⟨Nat.le_of_ble_eq_true rfl, Nat.le_of_ble_eq_true rfl⟩ rfl rfl rfl rfl hl.1 rfl (Nat.le_of_ble_eq_true rfl) hf dL_448 (fun H1 locs1 hw1 => ?_)
  refine lv_aload_n hx hb dL_451 rfl (lv_at hl 2 rfl) ?_
  refine l_arg (k := 1) hx hb hl hX hbl hw1.2.2.2 (by decide) (by omega) hL dL_452 dL_453 dL_454 dL_455 dL_456 ?_
  refine l_callMi (As := [.int (xs (i + 1))]) (rest := [.int r]) hC hF hw1 (c_X7_law l D cy adM adK adV MY 0 (xs (i + 1)) (Y', r) e2) (gW_goodV hg qw1062 qw1059 qw1060 qw1061 qw67) hdX7_law rfl ⟨Nat.le_of_ble_eq_true rfl, Nat.le_of_ble_eq_true rfl⟩ rfl rfl rfl rfl hl.1 rfl (Nat.le_of_ble_eq_true rfl) hf dL_457 (fun H2 locs2 hw2 => ?_)
  exact lv_icmp_eq (tgt := 1401) hx hb dL_460 (by decide) (fun _ => kk X' Y' H2 locs2 hw2 e3) (fun z => absurd rfl z)
theorem case_feed (hC : CallFix p m c code 4 s args Ts RL) (hg : ∀ w ∈ gW, w ∈ Ts) (hF : LF D cy adX adM adK adV b s) (hw : LW D cy adX adM b L xs s MX MY H locs) (hr : Rel MX MY) (hl : lv_has ls 4 ((0, .ref b) :: (1, .ref (adX 0)) :: (2, .ref (adM 0)) :: (3, .int (nI i)) :: tl)) (hX : va_X b L xs s s.heap) (hi : i + 6 ≤ L) (hL : L ≤ 384) (hf : cells ≤ room_1.cells ∧ slots ≤ room_1.slots)
    (kk : ∀ (MX' MY' : Mm) (H1 : Heap) (locs1 : List Loc), LW D cy adX adM b L xs s MX' MY' H1 locs1 → Rel MX' MY' → W p l e room_1 s m args below meth c H1 locs1 cells slots Q (F0 m 1401 ls [])) : W p l e room_1 s m args below meth c H locs cells slots Q (F0 m 465 ls []) := by
  have hx := hC.1
  have hb := hC.2.1
  have hbl := hF.2.2.2.2.2.1
  obtain ⟨X', Y', r, e1, e2, e3⟩ := B_feed hr (xs (i + 1)) (xs (i + 2))
  refine lv_aload_n hx hb dL_465 rfl (lv_at hl 1 rfl) ?_
  refine l_arg (k := 1) hx hb hl hX hbl hw.2.2.2 (by decide) (by omega) hL dL_466 dL_467 dL_468 dL_469 dL_470 ?_
  refine l_arg (k := 2) hx hb hl hX hbl hw.2.2.2 (by decide) (by omega) hL dL_471 dL_472 dL_473 dL_474 dL_475 ?_
  refine l_callXi (As := [.int (xs (i + 1)), .int (xs (i + 2))]) (rest := []) hC hF hw (c_X6_feed l D cy adX adK adV MX 0 (xs (i + 1)) (xs (i + 2)) (X', r) e1) (gW_goodV hg qw441 qw438 qw439 qw440 qw60) hdX6_feed rfl ⟨Nat.le_of_ble_eq_true rfl, Nat.le_of_ble_eq_true rfl⟩ rfl rfl rfl rfl hl.1 rfl (Nat.le_of_ble_eq_true rfl) hf dL_476 (fun H1 locs1 hw1 => ?_)
  refine lv_aload_n hx hb dL_479 rfl (lv_at hl 2 rfl) ?_
  refine l_arg (k := 1) hx hb hl hX hbl hw1.2.2.2 (by decide) (by omega) hL dL_480 dL_481 dL_482 dL_483 dL_484 ?_
  refine l_arg (k := 2) hx hb hl hX hbl hw1.2.2.2 (by decide) (by omega) hL dL_485 dL_486 dL_487 dL_488 dL_489 ?_
  refine l_callMi (As := [.int (xs (i + 1)), .int (xs (i + 2))]) (rest := [.int r]) hC hF hw1 (c_X7_feed l D cy adM adK adV MY 0 (xs (i + 1)) (xs (i + 2)) (Y', r) e2) (gW_goodV hg qw1066 qw1063 qw1064 qw1065 qw67) hdX7_feed rfl ⟨Nat.le_of_ble_eq_true rfl, Nat.le_of_ble_eq_true rfl⟩ rfl rfl rfl rfl hl.1 rfl (Nat.le_of_ble_eq_true rfl) hf dL_490 (fun H2 locs2 hw2 => ?_)
  exact lv_icmp_eq (tgt := 1401) hx hb dL_493 (by decide) (fun _ => kk X' Y' H2 locs2 hw2 e3) (fun z => absurd rfl z)
theorem case_text (hC : CallFix p m c code 4 s args Ts RL) (hg : ∀ w ∈ gW, w ∈ Ts) (hF : LF D cy adX adM adK adV b s) (hw : LW D cy adX adM b L xs s MX MY H locs) (hr : Rel MX MY) (hl : lv_has ls 4 ((0, .ref b) :: (1, .ref (adX 0)) :: (2, .ref (adM 0)) :: (3, .int (nI i)) :: tl)) (hX : va_X b L xs s s.heap) (hi : i + 6 ≤ L) (hL : L ≤ 384) (hf : cells ≤ room_1.cells ∧ slots ≤ room_1.slots)
    (kk : ∀ (MX' MY' : Mm) (H1 : Heap) (locs1 : List Loc), LW D cy adX adM b L xs s MX' MY' H1 locs1 → Rel MX' MY' → W p l e room_1 s m args below meth c H1 locs1 cells slots Q (F0 m 1401 ls [])) : W p l e room_1 s m args below meth c H locs cells slots Q (F0 m 511 ls []) := by
  have hx := hC.1
  have hb := hC.2.1
  have hbl := hF.2.2.2.2.2.1
  obtain ⟨X', Y', r, e1, e2, e3⟩ := B_text hr
  refine lv_aload_n hx hb dL_511 rfl (lv_at hl 1 rfl) ?_
  refine l_callXi (As := []) (rest := []) hC hF hw (c_X6_text l D cy adX adK adV MX 0  (X', r) e1) (gW_goodV hg qw453 qw450 qw451 qw452 qw60) hdX6_text rfl ⟨Nat.le_of_ble_eq_true rfl, Nat.le_of_ble_eq_true rfl⟩ rfl rfl rfl rfl hl.1 rfl (Nat.le_of_ble_eq_true rfl) hf dL_512 (fun H1 locs1 hw1 => ?_)
  refine lv_aload_n hx hb dL_515 rfl (lv_at hl 2 rfl) ?_
  refine l_callMi (As := []) (rest := [.int r]) hC hF hw1 (c_X7_text l D cy adM adK adV MY 0  (Y', r) e2) (gW_goodV hg qw1074 qw1071 qw1072 qw1073 qw67) hdX7_text rfl ⟨Nat.le_of_ble_eq_true rfl, Nat.le_of_ble_eq_true rfl⟩ rfl rfl rfl rfl hl.1 rfl (Nat.le_of_ble_eq_true rfl) hf dL_516 (fun H2 locs2 hw2 => ?_)
  exact lv_icmp_eq (tgt := 1401) hx hb dL_519 (by decide) (fun _ => kk X' Y' H2 locs2 hw2 e3) (fun z => absurd rfl z)
theorem case_next (hC : CallFix p m c code 4 s args Ts RL) (hg : ∀ w ∈ gW, w ∈ Ts) (hF : LF D cy adX adM adK adV b s) (hw : LW D cy adX adM b L xs s MX MY H locs) (hr : Rel MX MY) (hl : lv_has ls 4 ((0, .ref b) :: (1, .ref (adX 0)) :: (2, .ref (adM 0)) :: (3, .int (nI i)) :: tl)) (hX : va_X b L xs s s.heap) (hi : i + 6 ≤ L) (hL : L ≤ 384) (hf : cells ≤ room_1.cells ∧ slots ≤ room_1.slots)
    (kk : ∀ (MX' MY' : Mm) (H1 : Heap) (locs1 : List Loc), LW D cy adX adM b L xs s MX' MY' H1 locs1 → Rel MX' MY' → W p l e room_1 s m args below meth c H1 locs1 cells slots Q (F0 m 1401 ls [])) : W p l e room_1 s m args below meth c H locs cells slots Q (F0 m 524 ls []) := by
  have hx := hC.1
  have hb := hC.2.1
  have hbl := hF.2.2.2.2.2.1
  obtain ⟨X', Y', r, e1, e2, e3⟩ := B_next hr (xs (i + 1))
  refine lv_aload_n hx hb dL_524 rfl (lv_at hl 1 rfl) ?_
  refine l_arg (k := 1) hx hb hl hX hbl hw.2.2.2 (by decide) (by omega) hL dL_525 dL_526 dL_527 dL_528 dL_529 ?_
  refine l_callXi (As := [.int (xs (i + 1))]) (rest := []) hC hF hw (c_X6_next l D cy adX adK adV MX 0 (xs (i + 1)) (X', r) e1) (gW_goodV hg qw587 qw584 qw585 qw586 qw60) hdX6_next rfl ⟨Nat.le_of_ble_eq_true rfl, Nat.le_of_ble_eq_true rfl⟩ rfl rfl rfl rfl hl.1 rfl (Nat.le_of_ble_eq_true rfl) hf dL_530 (fun H1 locs1 hw1 => ?_)
  refine lv_aload_n hx hb dL_533 rfl (lv_at hl 2 rfl) ?_
  refine l_arg (k := 1) hx hb hl hX hbl hw1.2.2.2 (by decide) (by omega) hL dL_534 dL_535 dL_536 dL_537 dL_538 ?_
  refine l_callMi (As := [.int (xs (i + 1))]) (rest := [.int r]) hC hF hw1 (c_X7_next l D cy adM adK adV MY 0 (xs (i + 1)) (Y', r) e2) (gW_goodV hg qw1134 qw1131 qw1132 qw1133 qw67) hdX7_next rfl ⟨Nat.le_of_ble_eq_true rfl, Nat.le_of_ble_eq_true rfl⟩ rfl rfl rfl rfl hl.1 rfl (Nat.le_of_ble_eq_true rfl) hf dL_539 (fun H2 locs2 hw2 => ?_)
  exact lv_icmp_eq (tgt := 1401) hx hb dL_542 (by decide) (fun _ => kk X' Y' H2 locs2 hw2 e3) (fun z => absurd rfl z)
theorem case_win (hC : CallFix p m c code 4 s args Ts RL) (hg : ∀ w ∈ gW, w ∈ Ts) (hF : LF D cy adX adM adK adV b s) (hw : LW D cy adX adM b L xs s MX MY H locs) (hr : Rel MX MY) (hl : lv_has ls 4 ((0, .ref b) :: (1, .ref (adX 0)) :: (2, .ref (adM 0)) :: (3, .int (nI i)) :: tl)) (hX : va_X b L xs s s.heap) (hi : i + 6 ≤ L) (hL : L ≤ 384) (hf : cells ≤ room_1.cells ∧ slots ≤ room_1.slots)
    (kk : ∀ (MX' MY' : Mm) (H1 : Heap) (locs1 : List Loc), LW D cy adX adM b L xs s MX' MY' H1 locs1 → Rel MX' MY' → W p l e room_1 s m args below meth c H1 locs1 cells slots Q (F0 m 1401 ls [])) : W p l e room_1 s m args below meth c H locs cells slots Q (F0 m 547 ls []) := by
  have hx := hC.1
  have hb := hC.2.1
  have hbl := hF.2.2.2.2.2.1
  obtain ⟨X', Y', r, e1, e2, e3⟩ := B_win hr (xs (i + 1))
  refine lv_aload_n hx hb dL_547 rfl (lv_at hl 1 rfl) ?_
  refine l_arg (k := 1) hx hb hl hX hbl hw.2.2.2 (by decide) (by omega) hL dL_548 dL_549 dL_550 dL_551 dL_552 ?_
  refine l_callXi (As := [.int (xs (i + 1))]) (rest := []) hC hF hw (c_X6_win l D cy adX adK adV MX 0 (xs (i + 1)) (X', r) e1) (gW_goodV hg qw617 qw614 qw615 qw616 qw60) hdX6_win rfl ⟨Nat.le_of_ble_eq_true rfl, Nat.le_of_ble_eq_true rfl⟩ rfl rfl rfl rfl hl.1 rfl (Nat.le_of_ble_eq_true rfl) hf dL_553 (fun H1 locs1 hw1 => ?_)
  refine lv_aload_n hx hb dL_556 rfl (lv_at hl 2 rfl) ?_
  refine l_arg (k := 1) hx hb hl hX hbl hw1.2.2.2 (by decide) (by omega) hL dL_557 dL_558 dL_559 dL_560 dL_561 ?_
  refine l_callMi (As := [.int (xs (i + 1))]) (rest := [.int r]) hC hF hw1 (c_X7_win l D cy adM adK adV MY 0 (xs (i + 1)) (Y', r) e2) (gW_goodV hg qw1158 qw1155 qw1156 qw1157 qw67) hdX7_win rfl ⟨Nat.le_of_ble_eq_true rfl, Nat.le_of_ble_eq_true rfl⟩ rfl rfl rfl rfl hl.1 rfl (Nat.le_of_ble_eq_true rfl) hf dL_562 (fun H2 locs2 hw2 => ?_)
  exact lv_icmp_eq (tgt := 1401) hx hb dL_565 (by decide) (fun _ => kk X' Y' H2 locs2 hw2 e3) (fun z => absurd rfl z)
theorem case_play (hC : CallFix p m c code 4 s args Ts RL) (hg : ∀ w ∈ gW, w ∈ Ts) (hF : LF D cy adX adM adK adV b s) (hw : LW D cy adX adM b L xs s MX MY H locs) (hr : Rel MX MY) (hl : lv_has ls 4 ((0, .ref b) :: (1, .ref (adX 0)) :: (2, .ref (adM 0)) :: (3, .int (nI i)) :: tl)) (hX : va_X b L xs s s.heap) (hi : i + 6 ≤ L) (hL : L ≤ 384) (hf : cells ≤ room_1.cells ∧ slots ≤ room_1.slots)
    (kk : ∀ (MX' MY' : Mm) (H1 : Heap) (locs1 : List Loc), LW D cy adX adM b L xs s MX' MY' H1 locs1 → Rel MX' MY' → W p l e room_1 s m args below meth c H1 locs1 cells slots Q (F0 m 1401 ls [])) : W p l e room_1 s m args below meth c H locs cells slots Q (F0 m 570 ls []) := by
  have hx := hC.1
  have hb := hC.2.1
  have hbl := hF.2.2.2.2.2.1
  obtain ⟨X', Y', r, e1, e2, e3⟩ := B_play hr
  refine lv_aload_n hx hb dL_570 rfl (lv_at hl 1 rfl) ?_
  refine l_callXi (As := []) (rest := []) hC hF hw (c_X6_play l D cy adX adK adV MX 0  (X', r) e1) (gW_goodV hg qw639 qw636 qw637 qw638 qw60) hdX6_play rfl ⟨Nat.le_of_ble_eq_true rfl, Nat.le_of_ble_eq_true rfl⟩ rfl rfl rfl rfl hl.1 rfl (Nat.le_of_ble_eq_true rfl) hf dL_571 (fun H1 locs1 hw1 => ?_)
  refine lv_aload_n hx hb dL_574 rfl (lv_at hl 2 rfl) ?_
  refine l_callMi (As := []) (rest := [.int r]) hC hF hw1 (c_X7_play l D cy adM adK adV MY 0  (Y', r) e2) (gW_goodV hg qw1174 qw1171 qw1172 qw1173 qw67) hdX7_play rfl ⟨Nat.le_of_ble_eq_true rfl, Nat.le_of_ble_eq_true rfl⟩ rfl rfl rfl rfl hl.1 rfl (Nat.le_of_ble_eq_true rfl) hf dL_575 (fun H2 locs2 hw2 => ?_)
  exact lv_icmp_eq (tgt := 1401) hx hb dL_578 (by decide) (fun _ => kk X' Y' H2 locs2 hw2 e3) (fun z => absurd rfl z)
theorem case_anew (hC : CallFix p m c code 4 s args Ts RL) (hg : ∀ w ∈ gW, w ∈ Ts) (hF : LF D cy adX adM adK adV b s) (hw : LW D cy adX adM b L xs s MX MY H locs) (hr : Rel MX MY) (hl : lv_has ls 4 ((0, .ref b) :: (1, .ref (adX 0)) :: (2, .ref (adM 0)) :: (3, .int (nI i)) :: tl)) (hX : va_X b L xs s s.heap) (hi : i + 6 ≤ L) (hL : L ≤ 384) (hf : cells ≤ room_1.cells ∧ slots ≤ room_1.slots)
    (kk : ∀ (MX' MY' : Mm) (H1 : Heap) (locs1 : List Loc), LW D cy adX adM b L xs s MX' MY' H1 locs1 → Rel MX' MY' → W p l e room_1 s m args below meth c H1 locs1 cells slots Q (F0 m 1401 ls [])) : W p l e room_1 s m args below meth c H locs cells slots Q (F0 m 583 ls []) := by
  have hx := hC.1
  have hb := hC.2.1
  have hbl := hF.2.2.2.2.2.1
  obtain ⟨X', Y', r, e1, e2, e3⟩ := B_anew hr
  refine lv_aload_n hx hb dL_583 rfl (lv_at hl 1 rfl) ?_
  refine l_callXi (As := []) (rest := []) hC hF hw (c_X6_anew l D cy adX adK adV MX 0  (X', r) e1) (gW_goodV hg qw649 qw646 qw647 qw648 qw60) hdX6_anew rfl ⟨Nat.le_of_ble_eq_true rfl, Nat.le_of_ble_eq_true rfl⟩ rfl rfl rfl rfl hl.1 rfl (Nat.le_of_ble_eq_true rfl) hf dL_584 (fun H1 locs1 hw1 => ?_)
  refine lv_aload_n hx hb dL_587 rfl (lv_at hl 2 rfl) ?_
  refine l_callMi (As := []) (rest := [.int r]) hC hF hw1 (c_X7_anew l D cy adM adK adV MY 0  (Y', r) e2) (gW_goodV hg qw1187 qw1184 qw1185 qw1186 qw67) hdX7_anew rfl ⟨Nat.le_of_ble_eq_true rfl, Nat.le_of_ble_eq_true rfl⟩ rfl rfl rfl rfl hl.1 rfl (Nat.le_of_ble_eq_true rfl) hf dL_588 (fun H2 locs2 hw2 => ?_)
  exact lv_icmp_eq (tgt := 1401) hx hb dL_591 (by decide) (fun _ => kk X' Y' H2 locs2 hw2 e3) (fun z => absurd rfl z)
theorem case_leads (hC : CallFix p m c code 4 s args Ts RL) (hg : ∀ w ∈ gW, w ∈ Ts) (hF : LF D cy adX adM adK adV b s) (hw : LW D cy adX adM b L xs s MX MY H locs) (hr : Rel MX MY) (hl : lv_has ls 4 ((0, .ref b) :: (1, .ref (adX 0)) :: (2, .ref (adM 0)) :: (3, .int (nI i)) :: tl)) (hX : va_X b L xs s s.heap) (hi : i + 6 ≤ L) (hL : L ≤ 384) (hf : cells ≤ room_1.cells ∧ slots ≤ room_1.slots)
    (kk : ∀ (MX' MY' : Mm) (H1 : Heap) (locs1 : List Loc), LW D cy adX adM b L xs s MX' MY' H1 locs1 → Rel MX' MY' → W p l e room_1 s m args below meth c H1 locs1 cells slots Q (F0 m 1401 ls [])) : W p l e room_1 s m args below meth c H locs cells slots Q (F0 m 596 ls []) := by
  have hx := hC.1
  have hb := hC.2.1
  have hbl := hF.2.2.2.2.2.1
  obtain ⟨X', Y', r, e1, e2, e3⟩ := B_leads hr
  refine lv_aload_n hx hb dL_596 rfl (lv_at hl 1 rfl) ?_
  refine l_callXi (As := []) (rest := []) hC hF hw (c_X6_leads l D cy adX adK adV MX 0  (X', r) e1) (gW_goodV hg qw657 qw654 qw655 qw656 qw60) hdX6_leads rfl ⟨Nat.le_of_ble_eq_true rfl, Nat.le_of_ble_eq_true rfl⟩ rfl rfl rfl rfl hl.1 rfl (Nat.le_of_ble_eq_true rfl) hf dL_597 (fun H1 locs1 hw1 => ?_)
  refine lv_aload_n hx hb dL_600 rfl (lv_at hl 2 rfl) ?_
  refine l_callMi (As := []) (rest := [.int r]) hC hF hw1 (c_X7_leads l D cy adM adK adV MY 0  (Y', r) e2) (gW_goodV hg qw1191 qw1188 qw1189 qw1190 qw67) hdX7_leads rfl ⟨Nat.le_of_ble_eq_true rfl, Nat.le_of_ble_eq_true rfl⟩ rfl rfl rfl rfl hl.1 rfl (Nat.le_of_ble_eq_true rfl) hf dL_601 (fun H2 locs2 hw2 => ?_)
  exact lv_icmp_eq (tgt := 1401) hx hb dL_604 (by decide) (fun _ => kk X' Y' H2 locs2 hw2 e3) (fun z => absurd rfl z)
theorem case_place (hC : CallFix p m c code 4 s args Ts RL) (hg : ∀ w ∈ gW, w ∈ Ts) (hF : LF D cy adX adM adK adV b s) (hw : LW D cy adX adM b L xs s MX MY H locs) (hr : Rel MX MY) (hl : lv_has ls 4 ((0, .ref b) :: (1, .ref (adX 0)) :: (2, .ref (adM 0)) :: (3, .int (nI i)) :: tl)) (hX : va_X b L xs s s.heap) (hi : i + 6 ≤ L) (hL : L ≤ 384) (hf : cells ≤ room_1.cells ∧ slots ≤ room_1.slots)
    (kk : ∀ (MX' MY' : Mm) (H1 : Heap) (locs1 : List Loc), LW D cy adX adM b L xs s MX' MY' H1 locs1 → Rel MX' MY' → W p l e room_1 s m args below meth c H1 locs1 cells slots Q (F0 m 1401 ls [])) : W p l e room_1 s m args below meth c H locs cells slots Q (F0 m 609 ls []) := by
  have hx := hC.1
  have hb := hC.2.1
  have hbl := hF.2.2.2.2.2.1
  obtain ⟨X', Y', r, e1, e2, e3⟩ := B_place hr (xs (i + 1))
  refine lv_aload_n hx hb dL_609 rfl (lv_at hl 1 rfl) ?_
  refine l_arg (k := 1) hx hb hl hX hbl hw.2.2.2 (by decide) (by omega) hL dL_610 dL_611 dL_612 dL_613 dL_614 ?_
  refine l_callXi (As := [.int (xs (i + 1))]) (rest := []) hC hF hw (c_X6_place l D cy adX adK adV MX 0 (xs (i + 1)) (X', r) e1) (gW_goodV hg qw665 qw662 qw663 qw664 qw60) hdX6_place rfl ⟨Nat.le_of_ble_eq_true rfl, Nat.le_of_ble_eq_true rfl⟩ rfl rfl rfl rfl hl.1 rfl (Nat.le_of_ble_eq_true rfl) hf dL_615 (fun H1 locs1 hw1 => ?_)
  refine lv_aload_n hx hb dL_618 rfl (lv_at hl 2 rfl) ?_
  refine l_arg (k := 1) hx hb hl hX hbl hw1.2.2.2 (by decide) (by omega) hL dL_619 dL_620 dL_621 dL_622 dL_623 ?_
  refine l_callMi (As := [.int (xs (i + 1))]) (rest := [.int r]) hC hF hw1 (c_X7_place l D cy adM adK adV MY 0 (xs (i + 1)) (Y', r) e2) (gW_goodV hg qw1199 qw1196 qw1197 qw1198 qw67) hdX7_place rfl ⟨Nat.le_of_ble_eq_true rfl, Nat.le_of_ble_eq_true rfl⟩ rfl rfl rfl rfl hl.1 rfl (Nat.le_of_ble_eq_true rfl) hf dL_624 (fun H2 locs2 hw2 => ?_)
  exact lv_icmp_eq (tgt := 1401) hx hb dL_627 (by decide) (fun _ => kk X' Y' H2 locs2 hw2 e3) (fun z => absurd rfl z)
theorem case_most (hC : CallFix p m c code 4 s args Ts RL) (hg : ∀ w ∈ gW, w ∈ Ts) (hF : LF D cy adX adM adK adV b s) (hw : LW D cy adX adM b L xs s MX MY H locs) (hr : Rel MX MY) (hl : lv_has ls 4 ((0, .ref b) :: (1, .ref (adX 0)) :: (2, .ref (adM 0)) :: (3, .int (nI i)) :: tl)) (hX : va_X b L xs s s.heap) (hi : i + 6 ≤ L) (hL : L ≤ 384) (hf : cells ≤ room_1.cells ∧ slots ≤ room_1.slots)
    (kk : ∀ (MX' MY' : Mm) (H1 : Heap) (locs1 : List Loc), LW D cy adX adM b L xs s MX' MY' H1 locs1 → Rel MX' MY' → W p l e room_1 s m args below meth c H1 locs1 cells slots Q (F0 m 1401 ls [])) : W p l e room_1 s m args below meth c H locs cells slots Q (F0 m 788 ls []) := by
  have hx := hC.1
  have hb := hC.2.1
  have hbl := hF.2.2.2.2.2.1
  obtain ⟨X', Y', r, e1, e2, e3⟩ := B_most hr (xs (i + 1))
  refine lv_aload_n hx hb dL_788 rfl (lv_at hl 1 rfl) ?_
  refine l_arg (k := 1) hx hb hl hX hbl hw.2.2.2 (by decide) (by omega) hL dL_789 dL_790 dL_791 dL_792 dL_793 ?_
  refine l_callXi (As := [.int (xs (i + 1))]) (rest := []) hC hF hw (c_X6_most l D cy adX adK adV MX 0 (xs (i + 1)) (X', r) e1) (gW_goodV hg qw721 qw718 qw719 qw720 qw60) hdX6_most rfl ⟨Nat.le_of_ble_eq_true rfl, Nat.le_of_ble_eq_true rfl⟩ rfl rfl rfl rfl hl.1 rfl (Nat.le_of_ble_eq_true rfl) hf dL_794 (fun H1 locs1 hw1 => ?_)
  refine lv_aload_n hx hb dL_797 rfl (lv_at hl 2 rfl) ?_
  refine l_arg (k := 1) hx hb hl hX hbl hw1.2.2.2 (by decide) (by omega) hL dL_798 dL_799 dL_800 dL_801 dL_802 ?_
  refine l_callMi (As := [.int (xs (i + 1))]) (rest := [.int r]) hC hF hw1 (c_X7_most l D cy adM adK adV MY 0 (xs (i + 1)) (Y', r) e2) (gW_goodV hg qw1238 qw1235 qw1236 qw1237 qw67) hdX7_most rfl ⟨Nat.le_of_ble_eq_true rfl, Nat.le_of_ble_eq_true rfl⟩ rfl rfl rfl rfl hl.1 rfl (Nat.le_of_ble_eq_true rfl) hf dL_803 (fun H2 locs2 hw2 => ?_)
  exact lv_icmp_eq (tgt := 1401) hx hb dL_806 (by decide) (fun _ => kk X' Y' H2 locs2 hw2 e3) (fun z => absurd rfl z)
theorem case_ways (hC : CallFix p m c code 4 s args Ts RL) (hg : ∀ w ∈ gW, w ∈ Ts) (hF : LF D cy adX adM adK adV b s) (hw : LW D cy adX adM b L xs s MX MY H locs) (hr : Rel MX MY) (hl : lv_has ls 4 ((0, .ref b) :: (1, .ref (adX 0)) :: (2, .ref (adM 0)) :: (3, .int (nI i)) :: tl)) (hX : va_X b L xs s s.heap) (hi : i + 6 ≤ L) (hL : L ≤ 384) (hf : cells ≤ room_1.cells ∧ slots ≤ room_1.slots)
    (kk : ∀ (MX' MY' : Mm) (H1 : Heap) (locs1 : List Loc), LW D cy adX adM b L xs s MX' MY' H1 locs1 → Rel MX' MY' → W p l e room_1 s m args below meth c H1 locs1 cells slots Q (F0 m 1401 ls [])) : W p l e room_1 s m args below meth c H locs cells slots Q (F0 m 811 ls []) := by
  have hx := hC.1
  have hb := hC.2.1
  have hbl := hF.2.2.2.2.2.1
  obtain ⟨X', Y', r, e1, e2, e3⟩ := B_ways hr
  refine lv_aload_n hx hb dL_811 rfl (lv_at hl 1 rfl) ?_
  refine l_callXi (As := []) (rest := []) hC hF hw (c_X6_ways l D cy adX adK adV MX 0  (X', r) e1) (gW_goodV hg qw725 qw722 qw723 qw724 qw60) hdX6_ways rfl ⟨Nat.le_of_ble_eq_true rfl, Nat.le_of_ble_eq_true rfl⟩ rfl rfl rfl rfl hl.1 rfl (Nat.le_of_ble_eq_true rfl) hf dL_812 (fun H1 locs1 hw1 => ?_)
  refine lv_aload_n hx hb dL_815 rfl (lv_at hl 2 rfl) ?_
  refine l_callMi (As := []) (rest := [.int r]) hC hF hw1 (c_X7_ways l D cy adM adK adV MY 0  (Y', r) e2) (gW_goodV hg qw1242 qw1239 qw1240 qw1241 qw67) hdX7_ways rfl ⟨Nat.le_of_ble_eq_true rfl, Nat.le_of_ble_eq_true rfl⟩ rfl rfl rfl rfl hl.1 rfl (Nat.le_of_ble_eq_true rfl) hf dL_816 (fun H2 locs2 hw2 => ?_)
  exact lv_icmp_eq (tgt := 1401) hx hb dL_819 (by decide) (fun _ => kk X' Y' H2 locs2 hw2 e3) (fun z => absurd rfl z)
theorem case_best (hC : CallFix p m c code 4 s args Ts RL) (hg : ∀ w ∈ gW, w ∈ Ts) (hF : LF D cy adX adM adK adV b s) (hw : LW D cy adX adM b L xs s MX MY H locs) (hr : Rel MX MY) (hl : lv_has ls 4 ((0, .ref b) :: (1, .ref (adX 0)) :: (2, .ref (adM 0)) :: (3, .int (nI i)) :: tl)) (hX : va_X b L xs s s.heap) (hi : i + 6 ≤ L) (hL : L ≤ 384) (hf : cells ≤ room_1.cells ∧ slots ≤ room_1.slots)
    (kk : ∀ (MX' MY' : Mm) (H1 : Heap) (locs1 : List Loc), LW D cy adX adM b L xs s MX' MY' H1 locs1 → Rel MX' MY' → W p l e room_1 s m args below meth c H1 locs1 cells slots Q (F0 m 1401 ls [])) : W p l e room_1 s m args below meth c H locs cells slots Q (F0 m 858 ls []) := by
  have hx := hC.1
  have hb := hC.2.1
  have hbl := hF.2.2.2.2.2.1
  obtain ⟨X', Y', r, e1, e2, e3⟩ := B_best hr (xs (i + 1))
  refine lv_aload_n hx hb dL_858 rfl (lv_at hl 1 rfl) ?_
  refine l_arg (k := 1) hx hb hl hX hbl hw.2.2.2 (by decide) (by omega) hL dL_859 dL_860 dL_861 dL_862 dL_863 ?_
  refine l_callXi (As := [.int (xs (i + 1))]) (rest := []) hC hF hw (c_X6_best l D cy adX adK adV MX 0 (xs (i + 1)) (X', r) e1) (gW_goodV hg qw733 qw730 qw731 qw732 qw60) hdX6_best rfl ⟨Nat.le_of_ble_eq_true rfl, Nat.le_of_ble_eq_true rfl⟩ rfl rfl rfl rfl hl.1 rfl (Nat.le_of_ble_eq_true rfl) hf dL_864 (fun H1 locs1 hw1 => ?_)
  refine lv_aload_n hx hb dL_867 rfl (lv_at hl 2 rfl) ?_
  refine l_arg (k := 1) hx hb hl hX hbl hw1.2.2.2 (by decide) (by omega) hL dL_868 dL_869 dL_870 dL_871 dL_872 ?_
  refine l_callMi (As := [.int (xs (i + 1))]) (rest := [.int r]) hC hF hw1 (c_X7_best l D cy adM adK adV MY 0 (xs (i + 1)) (Y', r) e2) (gW_goodV hg qw1250 qw1247 qw1248 qw1249 qw67) hdX7_best rfl ⟨Nat.le_of_ble_eq_true rfl, Nat.le_of_ble_eq_true rfl⟩ rfl rfl rfl rfl hl.1 rfl (Nat.le_of_ble_eq_true rfl) hf dL_873 (fun H2 locs2 hw2 => ?_)
  exact lv_icmp_eq (tgt := 1401) hx hb dL_876 (by decide) (fun _ => kk X' Y' H2 locs2 hw2 e3) (fun z => absurd rfl z)
theorem case_kindFor (hC : CallFix p m c code 4 s args Ts RL) (hg : ∀ w ∈ gW, w ∈ Ts) (hF : LF D cy adX adM adK adV b s) (hw : LW D cy adX adM b L xs s MX MY H locs) (hr : Rel MX MY) (hl : lv_has ls 4 ((0, .ref b) :: (1, .ref (adX 0)) :: (2, .ref (adM 0)) :: (3, .int (nI i)) :: tl)) (hX : va_X b L xs s s.heap) (hi : i + 6 ≤ L) (hL : L ≤ 384) (hf : cells ≤ room_1.cells ∧ slots ≤ room_1.slots)
    (kk : ∀ (MX' MY' : Mm) (H1 : Heap) (locs1 : List Loc), LW D cy adX adM b L xs s MX' MY' H1 locs1 → Rel MX' MY' → W p l e room_1 s m args below meth c H1 locs1 cells slots Q (F0 m 1401 ls [])) : W p l e room_1 s m args below meth c H locs cells slots Q (F0 m 881 ls []) := by
  have hx := hC.1
  have hb := hC.2.1
  have hbl := hF.2.2.2.2.2.1
  obtain ⟨X', Y', r, e1, e2, e3⟩ := B_kindFor hr (xs (i + 1))
  refine lv_aload_n hx hb dL_881 rfl (lv_at hl 1 rfl) ?_
  refine l_arg (k := 1) hx hb hl hX hbl hw.2.2.2 (by decide) (by omega) hL dL_882 dL_883 dL_884 dL_885 dL_886 ?_
  refine l_callXi (As := [.int (xs (i + 1))]) (rest := []) hC hF hw (c_X6_kindFor l D cy adX adK adV MX 0 (xs (i + 1)) (X', r) e1) (gW_goodV hg qw750 qw747 qw748 qw749 qw60) hdX6_kindFor rfl ⟨Nat.le_of_ble_eq_true rfl, Nat.le_of_ble_eq_true rfl⟩ rfl rfl rfl rfl hl.1 rfl (Nat.le_of_ble_eq_true rfl) hf dL_887 (fun H1 locs1 hw1 => ?_)
  refine lv_aload_n hx hb dL_890 rfl (lv_at hl 2 rfl) ?_
  refine l_arg (k := 1) hx hb hl hX hbl hw1.2.2.2 (by decide) (by omega) hL dL_891 dL_892 dL_893 dL_894 dL_895 ?_
  refine l_callMi (As := [.int (xs (i + 1))]) (rest := [.int r]) hC hF hw1 (c_X7_kindFor l D cy adM adK adV MY 0 (xs (i + 1)) (Y', r) e2) (gW_goodV hg qw1258 qw1255 qw1256 qw1257 qw67) hdX7_kindFor rfl ⟨Nat.le_of_ble_eq_true rfl, Nat.le_of_ble_eq_true rfl⟩ rfl rfl rfl rfl hl.1 rfl (Nat.le_of_ble_eq_true rfl) hf dL_896 (fun H2 locs2 hw2 => ?_)
  exact lv_icmp_eq (tgt := 1401) hx hb dL_899 (by decide) (fun _ => kk X' Y' H2 locs2 hw2 e3) (fun z => absurd rfl z)
theorem case_tellsFor (hC : CallFix p m c code 4 s args Ts RL) (hg : ∀ w ∈ gW, w ∈ Ts) (hF : LF D cy adX adM adK adV b s) (hw : LW D cy adX adM b L xs s MX MY H locs) (hr : Rel MX MY) (hl : lv_has ls 4 ((0, .ref b) :: (1, .ref (adX 0)) :: (2, .ref (adM 0)) :: (3, .int (nI i)) :: tl)) (hX : va_X b L xs s s.heap) (hi : i + 6 ≤ L) (hL : L ≤ 384) (hf : cells ≤ room_1.cells ∧ slots ≤ room_1.slots)
    (kk : ∀ (MX' MY' : Mm) (H1 : Heap) (locs1 : List Loc), LW D cy adX adM b L xs s MX' MY' H1 locs1 → Rel MX' MY' → W p l e room_1 s m args below meth c H1 locs1 cells slots Q (F0 m 1401 ls [])) : W p l e room_1 s m args below meth c H locs cells slots Q (F0 m 904 ls []) := by
  have hx := hC.1
  have hb := hC.2.1
  have hbl := hF.2.2.2.2.2.1
  obtain ⟨X', Y', r, e1, e2, e3⟩ := B_tellsFor hr (xs (i + 1))
  refine lv_aload_n hx hb dL_904 rfl (lv_at hl 1 rfl) ?_
  refine l_arg (k := 1) hx hb hl hX hbl hw.2.2.2 (by decide) (by omega) hL dL_905 dL_906 dL_907 dL_908 dL_909 ?_
  refine l_callXi (As := [.int (xs (i + 1))]) (rest := []) hC hF hw (c_X6_tellsFor l D cy adX adK adV MX 0 (xs (i + 1)) (X', r) e1) (gW_goodV hg qw754 qw751 qw752 qw753 qw60) hdX6_tellsFor rfl ⟨Nat.le_of_ble_eq_true rfl, Nat.le_of_ble_eq_true rfl⟩ rfl rfl rfl rfl hl.1 rfl (Nat.le_of_ble_eq_true rfl) hf dL_910 (fun H1 locs1 hw1 => ?_)
  refine lv_aload_n hx hb dL_913 rfl (lv_at hl 2 rfl) ?_
  refine l_arg (k := 1) hx hb hl hX hbl hw1.2.2.2 (by decide) (by omega) hL dL_914 dL_915 dL_916 dL_917 dL_918 ?_
  refine l_callMi (As := [.int (xs (i + 1))]) (rest := [.int r]) hC hF hw1 (c_X7_tellsFor l D cy adM adK adV MY 0 (xs (i + 1)) (Y', r) e2) (gW_goodV hg qw1266 qw1263 qw1264 qw1265 qw67) hdX7_tellsFor rfl ⟨Nat.le_of_ble_eq_true rfl, Nat.le_of_ble_eq_true rfl⟩ rfl rfl rfl rfl hl.1 rfl (Nat.le_of_ble_eq_true rfl) hf dL_919 (fun H2 locs2 hw2 => ?_)
  exact lv_icmp_eq (tgt := 1401) hx hb dL_922 (by decide) (fun _ => kk X' Y' H2 locs2 hw2 e3) (fun z => absurd rfl z)
theorem case_order (hC : CallFix p m c code 4 s args Ts RL) (hg : ∀ w ∈ gW, w ∈ Ts) (hF : LF D cy adX adM adK adV b s) (hw : LW D cy adX adM b L xs s MX MY H locs) (hr : Rel MX MY) (hl : lv_has ls 4 ((0, .ref b) :: (1, .ref (adX 0)) :: (2, .ref (adM 0)) :: (3, .int (nI i)) :: tl)) (hX : va_X b L xs s s.heap) (hi : i + 6 ≤ L) (hL : L ≤ 384) (hf : cells ≤ room_1.cells ∧ slots ≤ room_1.slots)
    (kk : ∀ (MX' MY' : Mm) (H1 : Heap) (locs1 : List Loc), LW D cy adX adM b L xs s MX' MY' H1 locs1 → Rel MX' MY' → W p l e room_1 s m args below meth c H1 locs1 cells slots Q (F0 m 1401 ls [])) : W p l e room_1 s m args below meth c H locs cells slots Q (F0 m 927 ls []) := by
  have hx := hC.1
  have hb := hC.2.1
  have hbl := hF.2.2.2.2.2.1
  obtain ⟨X', Y', r, e1, e2, e3⟩ := B_order hr (xs (i + 1))
  refine lv_aload_n hx hb dL_927 rfl (lv_at hl 1 rfl) ?_
  refine l_arg (k := 1) hx hb hl hX hbl hw.2.2.2 (by decide) (by omega) hL dL_928 dL_929 dL_930 dL_931 dL_932 ?_
  refine l_callXi (As := [.int (xs (i + 1))]) (rest := []) hC hF hw (c_X6_order l D cy adX adK adV MX 0 (xs (i + 1)) (X', r) e1) (gW_goodV hg qw758 qw755 qw756 qw757 qw60) hdX6_order rfl ⟨Nat.le_of_ble_eq_true rfl, Nat.le_of_ble_eq_true rfl⟩ rfl rfl rfl rfl hl.1 rfl (Nat.le_of_ble_eq_true rfl) hf dL_933 (fun H1 locs1 hw1 => ?_)
  refine lv_aload_n hx hb dL_936 rfl (lv_at hl 2 rfl) ?_
  refine l_arg (k := 1) hx hb hl hX hbl hw1.2.2.2 (by decide) (by omega) hL dL_937 dL_938 dL_939 dL_940 dL_941 ?_
  refine l_callMi (As := [.int (xs (i + 1))]) (rest := [.int r]) hC hF hw1 (c_X7_order l D cy adM adK adV MY 0 (xs (i + 1)) (Y', r) e2) (gW_goodV hg qw1270 qw1267 qw1268 qw1269 qw67) hdX7_order rfl ⟨Nat.le_of_ble_eq_true rfl, Nat.le_of_ble_eq_true rfl⟩ rfl rfl rfl rfl hl.1 rfl (Nat.le_of_ble_eq_true rfl) hf dL_942 (fun H2 locs2 hw2 => ?_)
  exact lv_icmp_eq (tgt := 1401) hx hb dL_945 (by decide) (fun _ => kk X' Y' H2 locs2 hw2 e3) (fun z => absurd rfl z)
theorem case_lawFor (hC : CallFix p m c code 4 s args Ts RL) (hg : ∀ w ∈ gW, w ∈ Ts) (hF : LF D cy adX adM adK adV b s) (hw : LW D cy adX adM b L xs s MX MY H locs) (hr : Rel MX MY) (hl : lv_has ls 4 ((0, .ref b) :: (1, .ref (adX 0)) :: (2, .ref (adM 0)) :: (3, .int (nI i)) :: tl)) (hX : va_X b L xs s s.heap) (hi : i + 6 ≤ L) (hL : L ≤ 384) (hf : cells ≤ room_1.cells ∧ slots ≤ room_1.slots)
    (kk : ∀ (MX' MY' : Mm) (H1 : Heap) (locs1 : List Loc), LW D cy adX adM b L xs s MX' MY' H1 locs1 → Rel MX' MY' → W p l e room_1 s m args below meth c H1 locs1 cells slots Q (F0 m 1401 ls [])) : W p l e room_1 s m args below meth c H locs cells slots Q (F0 m 950 ls []) := by
  have hx := hC.1
  have hb := hC.2.1
  have hbl := hF.2.2.2.2.2.1
  obtain ⟨X', Y', r, e1, e2, e3⟩ := B_lawFor hr (xs (i + 1))
  refine lv_aload_n hx hb dL_950 rfl (lv_at hl 1 rfl) ?_
  refine l_arg (k := 1) hx hb hl hX hbl hw.2.2.2 (by decide) (by omega) hL dL_951 dL_952 dL_953 dL_954 dL_955 ?_
  refine l_callXi (As := [.int (xs (i + 1))]) (rest := []) hC hF hw (c_X6_lawFor l D cy adX adK adV MX 0 (xs (i + 1)) (X', r) e1) (gW_goodV hg qw771 qw768 qw769 qw770 qw60) hdX6_lawFor rfl ⟨Nat.le_of_ble_eq_true rfl, Nat.le_of_ble_eq_true rfl⟩ rfl rfl rfl rfl hl.1 rfl (Nat.le_of_ble_eq_true rfl) hf dL_956 (fun H1 locs1 hw1 => ?_)
  refine lv_aload_n hx hb dL_959 rfl (lv_at hl 2 rfl) ?_
  refine l_arg (k := 1) hx hb hl hX hbl hw1.2.2.2 (by decide) (by omega) hL dL_960 dL_961 dL_962 dL_963 dL_964 ?_
  refine l_callMi (As := [.int (xs (i + 1))]) (rest := [.int r]) hC hF hw1 (c_X7_lawFor l D cy adM adK adV MY 0 (xs (i + 1)) (Y', r) e2) (gW_goodV hg qw1278 qw1275 qw1276 qw1277 qw67) hdX7_lawFor rfl ⟨Nat.le_of_ble_eq_true rfl, Nat.le_of_ble_eq_true rfl⟩ rfl rfl rfl rfl hl.1 rfl (Nat.le_of_ble_eq_true rfl) hf dL_965 (fun H2 locs2 hw2 => ?_)
  exact lv_icmp_eq (tgt := 1401) hx hb dL_968 (by decide) (fun _ => kk X' Y' H2 locs2 hw2 e3) (fun z => absurd rfl z)
theorem case_gains (hC : CallFix p m c code 4 s args Ts RL) (hg : ∀ w ∈ gW, w ∈ Ts) (hF : LF D cy adX adM adK adV b s) (hw : LW D cy adX adM b L xs s MX MY H locs) (hr : Rel MX MY) (hl : lv_has ls 4 ((0, .ref b) :: (1, .ref (adX 0)) :: (2, .ref (adM 0)) :: (3, .int (nI i)) :: tl)) (hX : va_X b L xs s s.heap) (hi : i + 6 ≤ L) (hL : L ≤ 384) (hf : cells ≤ room_1.cells ∧ slots ≤ room_1.slots)
    (kk : ∀ (MX' MY' : Mm) (H1 : Heap) (locs1 : List Loc), LW D cy adX adM b L xs s MX' MY' H1 locs1 → Rel MX' MY' → W p l e room_1 s m args below meth c H1 locs1 cells slots Q (F0 m 1401 ls [])) : W p l e room_1 s m args below meth c H locs cells slots Q (F0 m 973 ls []) := by
  have hx := hC.1
  have hb := hC.2.1
  have hbl := hF.2.2.2.2.2.1
  obtain ⟨X', Y', r, e1, e2, e3⟩ := B_gains hr
  refine lv_aload_n hx hb dL_973 rfl (lv_at hl 1 rfl) ?_
  refine l_callXi (As := []) (rest := []) hC hF hw (c_X6_gains l D cy adX adK adV MX 0  (X', r) e1) (gW_goodV hg qw775 qw772 qw773 qw774 qw60) hdX6_gains rfl ⟨Nat.le_of_ble_eq_true rfl, Nat.le_of_ble_eq_true rfl⟩ rfl rfl rfl rfl hl.1 rfl (Nat.le_of_ble_eq_true rfl) hf dL_974 (fun H1 locs1 hw1 => ?_)
  refine lv_aload_n hx hb dL_977 rfl (lv_at hl 2 rfl) ?_
  refine l_callMi (As := []) (rest := [.int r]) hC hF hw1 (c_X7_gains l D cy adM adK adV MY 0  (Y', r) e2) (gW_goodV hg qw1282 qw1279 qw1280 qw1281 qw67) hdX7_gains rfl ⟨Nat.le_of_ble_eq_true rfl, Nat.le_of_ble_eq_true rfl⟩ rfl rfl rfl rfl hl.1 rfl (Nat.le_of_ble_eq_true rfl) hf dL_978 (fun H2 locs2 hw2 => ?_)
  exact lv_icmp_eq (tgt := 1401) hx hb dL_981 (by decide) (fun _ => kk X' Y' H2 locs2 hw2 e3) (fun z => absurd rfl z)
theorem case_wronged (hC : CallFix p m c code 4 s args Ts RL) (hg : ∀ w ∈ gW, w ∈ Ts) (hF : LF D cy adX adM adK adV b s) (hw : LW D cy adX adM b L xs s MX MY H locs) (hr : Rel MX MY) (hl : lv_has ls 4 ((0, .ref b) :: (1, .ref (adX 0)) :: (2, .ref (adM 0)) :: (3, .int (nI i)) :: tl)) (hX : va_X b L xs s s.heap) (hi : i + 6 ≤ L) (hL : L ≤ 384) (hf : cells ≤ room_1.cells ∧ slots ≤ room_1.slots)
    (kk : ∀ (MX' MY' : Mm) (H1 : Heap) (locs1 : List Loc), LW D cy adX adM b L xs s MX' MY' H1 locs1 → Rel MX' MY' → W p l e room_1 s m args below meth c H1 locs1 cells slots Q (F0 m 1401 ls [])) : W p l e room_1 s m args below meth c H locs cells slots Q (F0 m 986 ls []) := by
  have hx := hC.1
  have hb := hC.2.1
  have hbl := hF.2.2.2.2.2.1
  obtain ⟨X', Y', r, e1, e2, e3⟩ := B_wronged hr
  refine lv_aload_n hx hb dL_986 rfl (lv_at hl 1 rfl) ?_
  refine l_callXi (As := []) (rest := []) hC hF hw (c_X6_wronged l D cy adX adK adV MX 0  (X', r) e1) (gW_goodV hg qw788 qw785 qw786 qw787 qw60) hdX6_wronged rfl ⟨Nat.le_of_ble_eq_true rfl, Nat.le_of_ble_eq_true rfl⟩ rfl rfl rfl rfl hl.1 rfl (Nat.le_of_ble_eq_true rfl) hf dL_987 (fun H1 locs1 hw1 => ?_)
  refine lv_aload_n hx hb dL_990 rfl (lv_at hl 2 rfl) ?_
  refine l_callMi (As := []) (rest := [.int r]) hC hF hw1 (c_X7_wronged l D cy adM adK adV MY 0  (Y', r) e2) (gW_goodV hg qw1286 qw1283 qw1284 qw1285 qw67) hdX7_wronged rfl ⟨Nat.le_of_ble_eq_true rfl, Nat.le_of_ble_eq_true rfl⟩ rfl rfl rfl rfl hl.1 rfl (Nat.le_of_ble_eq_true rfl) hf dL_991 (fun H2 locs2 hw2 => ?_)
  exact lv_icmp_eq (tgt := 1401) hx hb dL_994 (by decide) (fun _ => kk X' Y' H2 locs2 hw2 e3) (fun z => absurd rfl z)
theorem case_tries (hC : CallFix p m c code 4 s args Ts RL) (hg : ∀ w ∈ gW, w ∈ Ts) (hF : LF D cy adX adM adK adV b s) (hw : LW D cy adX adM b L xs s MX MY H locs) (hr : Rel MX MY) (hl : lv_has ls 4 ((0, .ref b) :: (1, .ref (adX 0)) :: (2, .ref (adM 0)) :: (3, .int (nI i)) :: tl)) (hX : va_X b L xs s s.heap) (hi : i + 6 ≤ L) (hL : L ≤ 384) (hf : cells ≤ room_1.cells ∧ slots ≤ room_1.slots)
    (kk : ∀ (MX' MY' : Mm) (H1 : Heap) (locs1 : List Loc), LW D cy adX adM b L xs s MX' MY' H1 locs1 → Rel MX' MY' → W p l e room_1 s m args below meth c H1 locs1 cells slots Q (F0 m 1401 ls [])) : W p l e room_1 s m args below meth c H locs cells slots Q (F0 m 999 ls []) := by
  have hx := hC.1
  have hb := hC.2.1
  have hbl := hF.2.2.2.2.2.1
  obtain ⟨X', Y', r, e1, e2, e3⟩ := B_tries hr (xs (i + 1)) (xs (i + 2))
  refine lv_aload_n hx hb dL_999 rfl (lv_at hl 1 rfl) ?_
  refine l_arg (k := 1) hx hb hl hX hbl hw.2.2.2 (by decide) (by omega) hL dL_1000 dL_1001 dL_1002 dL_1003 dL_1004 ?_
  refine l_arg (k := 2) hx hb hl hX hbl hw.2.2.2 (by decide) (by omega) hL dL_1005 dL_1006 dL_1007 dL_1008 dL_1009 ?_
  refine l_callXi (As := [.int (xs (i + 1)), .int (xs (i + 2))]) (rest := []) hC hF hw (c_X6_tries l D cy adX adK adV MX 0 (xs (i + 1)) (xs (i + 2)) (X', r) e1) (gW_goodV hg qw793 qw790 qw791 qw792 qw60) hdX6_tries rfl ⟨Nat.le_of_ble_eq_true rfl, Nat.le_of_ble_eq_true rfl⟩ rfl rfl rfl rfl hl.1 rfl (Nat.le_of_ble_eq_true rfl) hf dL_1010 (fun H1 locs1 hw1 => ?_)
  refine lv_aload_n hx hb dL_1013 rfl (lv_at hl 2 rfl) ?_
  refine l_arg (k := 1) hx hb hl hX hbl hw1.2.2.2 (by decide) (by omega) hL dL_1014 dL_1015 dL_1016 dL_1017 dL_1018 ?_
  refine l_arg (k := 2) hx hb hl hX hbl hw1.2.2.2 (by decide) (by omega) hL dL_1019 dL_1020 dL_1021 dL_1022 dL_1023 ?_
  refine l_callMi (As := [.int (xs (i + 1)), .int (xs (i + 2))]) (rest := [.int r]) hC hF hw1 (c_X7_tries l D cy adM adK adV MY 0 (xs (i + 1)) (xs (i + 2)) (Y', r) e2) (gW_goodV hg qw1290 qw1287 qw1288 qw1289 qw67) hdX7_tries rfl ⟨Nat.le_of_ble_eq_true rfl, Nat.le_of_ble_eq_true rfl⟩ rfl rfl rfl rfl hl.1 rfl (Nat.le_of_ble_eq_true rfl) hf dL_1024 (fun H2 locs2 hw2 => ?_)
  exact lv_icmp_eq (tgt := 1401) hx hb dL_1027 (by decide) (fun _ => kk X' Y' H2 locs2 hw2 e3) (fun z => absurd rfl z)
theorem case_seed (hC : CallFix p m c code 4 s args Ts RL) (hg : ∀ w ∈ gW, w ∈ Ts) (hF : LF D cy adX adM adK adV b s) (hw : LW D cy adX adM b L xs s MX MY H locs) (hr : Rel MX MY) (hl : lv_has ls 4 ((0, .ref b) :: (1, .ref (adX 0)) :: (2, .ref (adM 0)) :: (3, .int (nI i)) :: tl)) (hX : va_X b L xs s s.heap) (hi : i + 6 ≤ L) (hL : L ≤ 384) (hf : cells ≤ room_1.cells ∧ slots ≤ room_1.slots)
    (kk : ∀ (MX' MY' : Mm) (H1 : Heap) (locs1 : List Loc), LW D cy adX adM b L xs s MX' MY' H1 locs1 → Rel MX' MY' → W p l e room_1 s m args below meth c H1 locs1 cells slots Q (F0 m 1401 ls [])) : W p l e room_1 s m args below meth c H locs cells slots Q (F0 m 1032 ls []) := by
  have hx := hC.1
  have hb := hC.2.1
  have hbl := hF.2.2.2.2.2.1
  obtain ⟨X', Y', r, e1, e2, e3⟩ := B_seed hr (xs (i + 1))
  refine lv_aload_n hx hb dL_1032 rfl (lv_at hl 1 rfl) ?_
  refine l_arg (k := 1) hx hb hl hX hbl hw.2.2.2 (by decide) (by omega) hL dL_1033 dL_1034 dL_1035 dL_1036 dL_1037 ?_
  refine l_callXi (As := [.int (xs (i + 1))]) (rest := []) hC hF hw (c_X6_seed l D cy adX adK adV MX 0 (xs (i + 1)) (X', r) e1) (gW_goodV hg qw798 qw795 qw796 qw797 qw60) hdX6_seed rfl ⟨Nat.le_of_ble_eq_true rfl, Nat.le_of_ble_eq_true rfl⟩ rfl rfl rfl rfl hl.1 rfl (Nat.le_of_ble_eq_true rfl) hf dL_1038 (fun H1 locs1 hw1 => ?_)
  refine lv_aload_n hx hb dL_1041 rfl (lv_at hl 2 rfl) ?_
  refine l_arg (k := 1) hx hb hl hX hbl hw1.2.2.2 (by decide) (by omega) hL dL_1042 dL_1043 dL_1044 dL_1045 dL_1046 ?_
  refine l_callMi (As := [.int (xs (i + 1))]) (rest := [.int r]) hC hF hw1 (c_X7_seed l D cy adM adK adV MY 0 (xs (i + 1)) (Y', r) e2) (gW_goodV hg qw1294 qw1291 qw1292 qw1293 qw67) hdX7_seed rfl ⟨Nat.le_of_ble_eq_true rfl, Nat.le_of_ble_eq_true rfl⟩ rfl rfl rfl rfl hl.1 rfl (Nat.le_of_ble_eq_true rfl) hf dL_1047 (fun H2 locs2 hw2 => ?_)
  exact lv_icmp_eq (tgt := 1401) hx hb dL_1050 (by decide) (fun _ => kk X' Y' H2 locs2 hw2 e3) (fun z => absurd rfl z)
theorem case_hold (hC : CallFix p m c code 4 s args Ts RL) (hg : ∀ w ∈ gW, w ∈ Ts) (hF : LF D cy adX adM adK adV b s) (hw : LW D cy adX adM b L xs s MX MY H locs) (hr : Rel MX MY) (hl : lv_has ls 4 ((0, .ref b) :: (1, .ref (adX 0)) :: (2, .ref (adM 0)) :: (3, .int (nI i)) :: tl)) (hX : va_X b L xs s s.heap) (hi : i + 6 ≤ L) (hL : L ≤ 384) (hf : cells ≤ room_1.cells ∧ slots ≤ room_1.slots)
    (kk : ∀ (MX' MY' : Mm) (H1 : Heap) (locs1 : List Loc), LW D cy adX adM b L xs s MX' MY' H1 locs1 → Rel MX' MY' → W p l e room_1 s m args below meth c H1 locs1 cells slots Q (F0 m 1401 ls [])) : W p l e room_1 s m args below meth c H locs cells slots Q (F0 m 1055 ls []) := by
  have hx := hC.1
  have hb := hC.2.1
  have hbl := hF.2.2.2.2.2.1
  obtain ⟨X', Y', r, e1, e2, e3⟩ := B_hold hr (xs (i + 1)) (xs (i + 2))
  refine lv_aload_n hx hb dL_1055 rfl (lv_at hl 1 rfl) ?_
  refine l_arg (k := 1) hx hb hl hX hbl hw.2.2.2 (by decide) (by omega) hL dL_1056 dL_1057 dL_1058 dL_1059 dL_1060 ?_
  refine l_arg (k := 2) hx hb hl hX hbl hw.2.2.2 (by decide) (by omega) hL dL_1061 dL_1062 dL_1063 dL_1064 dL_1065 ?_
  refine l_callXi (As := [.int (xs (i + 1)), .int (xs (i + 2))]) (rest := []) hC hF hw (c_X6_hold l D cy adX adK adV MX 0 (xs (i + 1)) (xs (i + 2)) (X', r) e1) (gW_goodV hg qw802 qw799 qw800 qw801 qw60) hdX6_hold rfl ⟨Nat.le_of_ble_eq_true rfl, Nat.le_of_ble_eq_true rfl⟩ rfl rfl rfl rfl hl.1 rfl (Nat.le_of_ble_eq_true rfl) hf dL_1066 (fun H1 locs1 hw1 => ?_)
  refine lv_aload_n hx hb dL_1069 rfl (lv_at hl 2 rfl) ?_
  refine l_arg (k := 1) hx hb hl hX hbl hw1.2.2.2 (by decide) (by omega) hL dL_1070 dL_1071 dL_1072 dL_1073 dL_1074 ?_
  refine l_arg (k := 2) hx hb hl hX hbl hw1.2.2.2 (by decide) (by omega) hL dL_1075 dL_1076 dL_1077 dL_1078 dL_1079 ?_
  refine l_callMi (As := [.int (xs (i + 1)), .int (xs (i + 2))]) (rest := [.int r]) hC hF hw1 (c_X7_hold l D cy adM adK adV MY 0 (xs (i + 1)) (xs (i + 2)) (Y', r) e2) (gW_goodV hg qw1298 qw1295 qw1296 qw1297 qw67) hdX7_hold rfl ⟨Nat.le_of_ble_eq_true rfl, Nat.le_of_ble_eq_true rfl⟩ rfl rfl rfl rfl hl.1 rfl (Nat.le_of_ble_eq_true rfl) hf dL_1080 (fun H2 locs2 hw2 => ?_)
  exact lv_icmp_eq (tgt := 1401) hx hb dL_1083 (by decide) (fun _ => kk X' Y' H2 locs2 hw2 e3) (fun z => absurd rfl z)
theorem case_as (hC : CallFix p m c code 4 s args Ts RL) (hg : ∀ w ∈ gW, w ∈ Ts) (hF : LF D cy adX adM adK adV b s) (hw : LW D cy adX adM b L xs s MX MY H locs) (hr : Rel MX MY) (hl : lv_has ls 4 ((0, .ref b) :: (1, .ref (adX 0)) :: (2, .ref (adM 0)) :: (3, .int (nI i)) :: tl)) (hX : va_X b L xs s s.heap) (hi : i + 6 ≤ L) (hL : L ≤ 384) (hf : cells ≤ room_1.cells ∧ slots ≤ room_1.slots)
    (kk : ∀ (MX' MY' : Mm) (H1 : Heap) (locs1 : List Loc), LW D cy adX adM b L xs s MX' MY' H1 locs1 → Rel MX' MY' → W p l e room_1 s m args below meth c H1 locs1 cells slots Q (F0 m 1401 ls [])) : W p l e room_1 s m args below meth c H locs cells slots Q (F0 m 1088 ls []) := by
  have hx := hC.1
  have hb := hC.2.1
  have hbl := hF.2.2.2.2.2.1
  obtain ⟨X', Y', r, e1, e2, e3⟩ := B_as hr (xs (i + 1)) (xs (i + 2))
  refine lv_aload_n hx hb dL_1088 rfl (lv_at hl 1 rfl) ?_
  refine l_arg (k := 1) hx hb hl hX hbl hw.2.2.2 (by decide) (by omega) hL dL_1089 dL_1090 dL_1091 dL_1092 dL_1093 ?_
  refine l_arg (k := 2) hx hb hl hX hbl hw.2.2.2 (by decide) (by omega) hL dL_1094 dL_1095 dL_1096 dL_1097 dL_1098 ?_
  refine l_callXi (As := [.int (xs (i + 1)), .int (xs (i + 2))]) (rest := []) hC hF hw (c_X6_as l D cy adX adK adV MX 0 (xs (i + 1)) (xs (i + 2)) (X', r) e1) (gW_goodV hg qw809 qw806 qw807 qw808 qw60) hdX6_as rfl ⟨Nat.le_of_ble_eq_true rfl, Nat.le_of_ble_eq_true rfl⟩ rfl rfl rfl rfl hl.1 rfl (Nat.le_of_ble_eq_true rfl) hf dL_1099 (fun H1 locs1 hw1 => ?_)
  refine lv_aload_n hx hb dL_1102 rfl (lv_at hl 2 rfl) ?_
  refine l_arg (k := 1) hx hb hl hX hbl hw1.2.2.2 (by decide) (by omega) hL dL_1103 dL_1104 dL_1105 dL_1106 dL_1107 ?_
  refine l_arg (k := 2) hx hb hl hX hbl hw1.2.2.2 (by decide) (by omega) hL dL_1108 dL_1109 dL_1110 dL_1111 dL_1112 ?_
  refine l_callMi (As := [.int (xs (i + 1)), .int (xs (i + 2))]) (rest := [.int r]) hC hF hw1 (c_X7_as l D cy adM adK adV MY 0 (xs (i + 1)) (xs (i + 2)) (Y', r) e2) (gW_goodV hg qw1302 qw1299 qw1300 qw1301 qw67) hdX7_as rfl ⟨Nat.le_of_ble_eq_true rfl, Nat.le_of_ble_eq_true rfl⟩ rfl rfl rfl rfl hl.1 rfl (Nat.le_of_ble_eq_true rfl) hf dL_1113 (fun H2 locs2 hw2 => ?_)
  exact lv_icmp_eq (tgt := 1401) hx hb dL_1116 (by decide) (fun _ => kk X' Y' H2 locs2 hw2 e3) (fun z => absurd rfl z)
theorem case_sheet (hC : CallFix p m c code 4 s args Ts RL) (hg : ∀ w ∈ gW, w ∈ Ts) (hF : LF D cy adX adM adK adV b s) (hw : LW D cy adX adM b L xs s MX MY H locs) (hr : Rel MX MY) (hl : lv_has ls 4 ((0, .ref b) :: (1, .ref (adX 0)) :: (2, .ref (adM 0)) :: (3, .int (nI i)) :: tl)) (hX : va_X b L xs s s.heap) (hi : i + 6 ≤ L) (hL : L ≤ 384) (hf : cells ≤ room_1.cells ∧ slots ≤ room_1.slots)
    (kk : ∀ (MX' MY' : Mm) (H1 : Heap) (locs1 : List Loc), LW D cy adX adM b L xs s MX' MY' H1 locs1 → Rel MX' MY' → W p l e room_1 s m args below meth c H1 locs1 cells slots Q (F0 m 1401 ls [])) : W p l e room_1 s m args below meth c H locs cells slots Q (F0 m 1121 ls []) := by
  have hx := hC.1
  have hb := hC.2.1
  have hbl := hF.2.2.2.2.2.1
  obtain ⟨X', Y', r, e1, e2, e3⟩ := B_sheet hr (xs (i + 1)) (xs (i + 2)) (xs (i + 3))
  refine lv_aload_n hx hb dL_1121 rfl (lv_at hl 1 rfl) ?_
  refine l_arg (k := 1) hx hb hl hX hbl hw.2.2.2 (by decide) (by omega) hL dL_1122 dL_1123 dL_1124 dL_1125 dL_1126 ?_
  refine l_arg (k := 2) hx hb hl hX hbl hw.2.2.2 (by decide) (by omega) hL dL_1127 dL_1128 dL_1129 dL_1130 dL_1131 ?_
  refine l_arg (k := 3) hx hb hl hX hbl hw.2.2.2 (by decide) (by omega) hL dL_1132 dL_1133 dL_1134 dL_1135 dL_1136 ?_
  refine l_callXi (As := [.int (xs (i + 1)), .int (xs (i + 2)), .int (xs (i + 3))]) (rest := []) hC hF hw (c_X6_sheet l D cy adX adK adV MX 0 (xs (i + 1)) (xs (i + 2)) (xs (i + 3)) (X', r) e1) (gW_goodV hg qw816 qw813 qw814 qw815 qw60) hdX6_sheet rfl ⟨Nat.le_of_ble_eq_true rfl, Nat.le_of_ble_eq_true rfl⟩ rfl rfl rfl rfl hl.1 rfl (Nat.le_of_ble_eq_true rfl) hf dL_1137 (fun H1 locs1 hw1 => ?_)
  refine lv_aload_n hx hb dL_1140 rfl (lv_at hl 2 rfl) ?_
  refine l_arg (k := 1) hx hb hl hX hbl hw1.2.2.2 (by decide) (by omega) hL dL_1141 dL_1142 dL_1143 dL_1144 dL_1145 ?_
  refine l_arg (k := 2) hx hb hl hX hbl hw1.2.2.2 (by decide) (by omega) hL dL_1146 dL_1147 dL_1148 dL_1149 dL_1150 ?_
  refine l_arg (k := 3) hx hb hl hX hbl hw1.2.2.2 (by decide) (by omega) hL dL_1151 dL_1152 dL_1153 dL_1154 dL_1155 ?_
  refine l_callMi (As := [.int (xs (i + 1)), .int (xs (i + 2)), .int (xs (i + 3))]) (rest := [.int r]) hC hF hw1 (c_X7_sheet l D cy adM adK adV MY 0 (xs (i + 1)) (xs (i + 2)) (xs (i + 3)) (Y', r) e2) (gW_goodV hg qw1309 qw1306 qw1307 qw1308 qw67) hdX7_sheet rfl ⟨Nat.le_of_ble_eq_true rfl, Nat.le_of_ble_eq_true rfl⟩ rfl rfl rfl rfl hl.1 rfl (Nat.le_of_ble_eq_true rfl) hf dL_1156 (fun H2 locs2 hw2 => ?_)
  exact lv_icmp_eq (tgt := 1401) hx hb dL_1159 (by decide) (fun _ => kk X' Y' H2 locs2 hw2 e3) (fun z => absurd rfl z)
theorem case_write (hC : CallFix p m c code 4 s args Ts RL) (hg : ∀ w ∈ gW, w ∈ Ts) (hF : LF D cy adX adM adK adV b s) (hw : LW D cy adX adM b L xs s MX MY H locs) (hr : Rel MX MY) (hl : lv_has ls 4 ((0, .ref b) :: (1, .ref (adX 0)) :: (2, .ref (adM 0)) :: (3, .int (nI i)) :: tl)) (hX : va_X b L xs s s.heap) (hi : i + 6 ≤ L) (hL : L ≤ 384) (hf : cells ≤ room_1.cells ∧ slots ≤ room_1.slots)
    (kk : ∀ (MX' MY' : Mm) (H1 : Heap) (locs1 : List Loc), LW D cy adX adM b L xs s MX' MY' H1 locs1 → Rel MX' MY' → W p l e room_1 s m args below meth c H1 locs1 cells slots Q (F0 m 1401 ls [])) : W p l e room_1 s m args below meth c H locs cells slots Q (F0 m 1164 ls []) := by
  have hx := hC.1
  have hb := hC.2.1
  have hbl := hF.2.2.2.2.2.1
  obtain ⟨X', Y', r, e1, e2, e3⟩ := B_write hr (xs (i + 1)) (xs (i + 2)) (xs (i + 3))
  refine lv_aload_n hx hb dL_1164 rfl (lv_at hl 1 rfl) ?_
  refine l_arg (k := 1) hx hb hl hX hbl hw.2.2.2 (by decide) (by omega) hL dL_1165 dL_1166 dL_1167 dL_1168 dL_1169 ?_
  refine l_arg (k := 2) hx hb hl hX hbl hw.2.2.2 (by decide) (by omega) hL dL_1170 dL_1171 dL_1172 dL_1173 dL_1174 ?_
  refine l_arg (k := 3) hx hb hl hX hbl hw.2.2.2 (by decide) (by omega) hL dL_1175 dL_1176 dL_1177 dL_1178 dL_1179 ?_
  refine l_callXi (As := [.int (xs (i + 1)), .int (xs (i + 2)), .int (xs (i + 3))]) (rest := []) hC hF hw (c_X6_write l D cy adX adK adV MX 0 (xs (i + 1)) (xs (i + 2)) (xs (i + 3)) (X', r) e1) (gW_goodV hg qw827 qw824 qw825 qw826 qw60) hdX6_write rfl ⟨Nat.le_of_ble_eq_true rfl, Nat.le_of_ble_eq_true rfl⟩ rfl rfl rfl rfl hl.1 rfl (Nat.le_of_ble_eq_true rfl) hf dL_1180 (fun H1 locs1 hw1 => ?_)
  refine lv_aload_n hx hb dL_1183 rfl (lv_at hl 2 rfl) ?_
  refine l_arg (k := 1) hx hb hl hX hbl hw1.2.2.2 (by decide) (by omega) hL dL_1184 dL_1185 dL_1186 dL_1187 dL_1188 ?_
  refine l_arg (k := 2) hx hb hl hX hbl hw1.2.2.2 (by decide) (by omega) hL dL_1189 dL_1190 dL_1191 dL_1192 dL_1193 ?_
  refine l_arg (k := 3) hx hb hl hX hbl hw1.2.2.2 (by decide) (by omega) hL dL_1194 dL_1195 dL_1196 dL_1197 dL_1198 ?_
  refine l_callMi (As := [.int (xs (i + 1)), .int (xs (i + 2)), .int (xs (i + 3))]) (rest := [.int r]) hC hF hw1 (c_X7_write l D cy adM adK adV MY 0 (xs (i + 1)) (xs (i + 2)) (xs (i + 3)) (Y', r) e2) (gW_goodV hg qw1316 qw1313 qw1314 qw1315 qw67) hdX7_write rfl ⟨Nat.le_of_ble_eq_true rfl, Nat.le_of_ble_eq_true rfl⟩ rfl rfl rfl rfl hl.1 rfl (Nat.le_of_ble_eq_true rfl) hf dL_1199 (fun H2 locs2 hw2 => ?_)
  exact lv_icmp_eq (tgt := 1401) hx hb dL_1202 (by decide) (fun _ => kk X' Y' H2 locs2 hw2 e3) (fun z => absurd rfl z)
theorem case_copy (hC : CallFix p m c code 4 s args Ts RL) (hg : ∀ w ∈ gW, w ∈ Ts) (hF : LF D cy adX adM adK adV b s) (hw : LW D cy adX adM b L xs s MX MY H locs) (hr : Rel MX MY) (hl : lv_has ls 4 ((0, .ref b) :: (1, .ref (adX 0)) :: (2, .ref (adM 0)) :: (3, .int (nI i)) :: tl)) (hX : va_X b L xs s s.heap) (hi : i + 6 ≤ L) (hL : L ≤ 384) (hf : cells ≤ room_1.cells ∧ slots ≤ room_1.slots)
    (kk : ∀ (MX' MY' : Mm) (H1 : Heap) (locs1 : List Loc), LW D cy adX adM b L xs s MX' MY' H1 locs1 → Rel MX' MY' → W p l e room_1 s m args below meth c H1 locs1 cells slots Q (F0 m 1401 ls [])) : W p l e room_1 s m args below meth c H locs cells slots Q (F0 m 1207 ls []) := by
  have hx := hC.1
  have hb := hC.2.1
  have hbl := hF.2.2.2.2.2.1
  obtain ⟨X', Y', r, e1, e2, e3⟩ := B_copy hr (xs (i + 1)) (xs (i + 2)) (xs (i + 3)) (xs (i + 4)) (xs (i + 5))
  refine lv_aload_n hx hb dL_1207 rfl (lv_at hl 1 rfl) ?_
  refine l_arg (k := 1) hx hb hl hX hbl hw.2.2.2 (by decide) (by omega) hL dL_1208 dL_1209 dL_1210 dL_1211 dL_1212 ?_
  refine l_arg (k := 2) hx hb hl hX hbl hw.2.2.2 (by decide) (by omega) hL dL_1213 dL_1214 dL_1215 dL_1216 dL_1217 ?_
  refine l_arg (k := 3) hx hb hl hX hbl hw.2.2.2 (by decide) (by omega) hL dL_1218 dL_1219 dL_1220 dL_1221 dL_1222 ?_
  refine l_arg (k := 4) hx hb hl hX hbl hw.2.2.2 (by decide) (by omega) hL dL_1223 dL_1224 dL_1225 dL_1226 dL_1227 ?_
  refine l_arg (k := 5) hx hb hl hX hbl hw.2.2.2 (by decide) (by omega) hL dL_1228 dL_1229 dL_1230 dL_1231 dL_1232 ?_
  refine l_callXi (As := [.int (xs (i + 1)), .int (xs (i + 2)), .int (xs (i + 3)), .int (xs (i + 4)), .int (xs (i + 5))]) (rest := []) hC hF hw (c_X6_copy l D cy adX adK adV MX 0 (xs (i + 1)) (xs (i + 2)) (xs (i + 3)) (xs (i + 4)) (xs (i + 5)) (X', r) e1) (gW_goodV hg qw839 qw836 qw837 qw838 qw60) hdX6_copy rfl ⟨Nat.le_of_ble_eq_true rfl, Nat.le_of_ble_eq_true rfl⟩ rfl rfl rfl rfl hl.1 rfl (Nat.le_of_ble_eq_true rfl) hf dL_1233 (fun H1 locs1 hw1 => ?_)
  refine lv_aload_n hx hb dL_1236 rfl (lv_at hl 2 rfl) ?_
  refine l_arg (k := 1) hx hb hl hX hbl hw1.2.2.2 (by decide) (by omega) hL dL_1237 dL_1238 dL_1239 dL_1240 dL_1241 ?_
  refine l_arg (k := 2) hx hb hl hX hbl hw1.2.2.2 (by decide) (by omega) hL dL_1242 dL_1243 dL_1244 dL_1245 dL_1246 ?_
  refine l_arg (k := 3) hx hb hl hX hbl hw1.2.2.2 (by decide) (by omega) hL dL_1247 dL_1248 dL_1249 dL_1250 dL_1251 ?_
  refine l_arg (k := 4) hx hb hl hX hbl hw1.2.2.2 (by decide) (by omega) hL dL_1252 dL_1253 dL_1254 dL_1255 dL_1256 ?_
  refine l_arg (k := 5) hx hb hl hX hbl hw1.2.2.2 (by decide) (by omega) hL dL_1257 dL_1258 dL_1259 dL_1260 dL_1261 ?_
  refine l_callMi (As := [.int (xs (i + 1)), .int (xs (i + 2)), .int (xs (i + 3)), .int (xs (i + 4)), .int (xs (i + 5))]) (rest := [.int r]) hC hF hw1 (c_X7_copy l D cy adM adK adV MY 0 (xs (i + 1)) (xs (i + 2)) (xs (i + 3)) (xs (i + 4)) (xs (i + 5)) (Y', r) e2) (gW_goodV hg qw1320 qw1317 qw1318 qw1319 qw67) hdX7_copy rfl ⟨Nat.le_of_ble_eq_true rfl, Nat.le_of_ble_eq_true rfl⟩ rfl rfl rfl rfl hl.1 rfl (Nat.le_of_ble_eq_true rfl) hf dL_1262 (fun H2 locs2 hw2 => ?_)
  exact lv_icmp_eq (tgt := 1401) hx hb dL_1265 (by decide) (fun _ => kk X' Y' H2 locs2 hw2 e3) (fun z => absurd rfl z)
theorem case_load (hC : CallFix p m c code 4 s args Ts RL) (hg : ∀ w ∈ gW, w ∈ Ts) (hF : LF D cy adX adM adK adV b s) (hw : LW D cy adX adM b L xs s MX MY H locs) (hr : Rel MX MY) (hl : lv_has ls 4 ((0, .ref b) :: (1, .ref (adX 0)) :: (2, .ref (adM 0)) :: (3, .int (nI i)) :: tl)) (hX : va_X b L xs s s.heap) (hi : i + 6 ≤ L) (hL : L ≤ 384) (hf : cells ≤ room_1.cells ∧ slots ≤ room_1.slots)
    (kk : ∀ (MX' MY' : Mm) (H1 : Heap) (locs1 : List Loc), LW D cy adX adM b L xs s MX' MY' H1 locs1 → Rel MX' MY' → W p l e room_1 s m args below meth c H1 locs1 cells slots Q (F0 m 1401 ls [])) : W p l e room_1 s m args below meth c H locs cells slots Q (F0 m 1270 ls []) := by
  have hx := hC.1
  have hb := hC.2.1
  have hbl := hF.2.2.2.2.2.1
  obtain ⟨X', Y', r, e1, e2, e3⟩ := B_load hr (xs (i + 1))
  refine lv_aload_n hx hb dL_1270 rfl (lv_at hl 1 rfl) ?_
  refine l_arg (k := 1) hx hb hl hX hbl hw.2.2.2 (by decide) (by omega) hL dL_1271 dL_1272 dL_1273 dL_1274 dL_1275 ?_
  refine l_callXi (As := [.int (xs (i + 1))]) (rest := []) hC hF hw (c_X6_load l D cy adX adK adV MX 0 (xs (i + 1)) (X', r) e1) (gW_goodV hg qw848 qw845 qw846 qw847 qw60) hdX6_load rfl ⟨Nat.le_of_ble_eq_true rfl, Nat.le_of_ble_eq_true rfl⟩ rfl rfl rfl rfl hl.1 rfl (Nat.le_of_ble_eq_true rfl) hf dL_1276 (fun H1 locs1 hw1 => ?_)
  refine lv_aload_n hx hb dL_1279 rfl (lv_at hl 2 rfl) ?_
  refine l_arg (k := 1) hx hb hl hX hbl hw1.2.2.2 (by decide) (by omega) hL dL_1280 dL_1281 dL_1282 dL_1283 dL_1284 ?_
  refine l_callMi (As := [.int (xs (i + 1))]) (rest := [.int r]) hC hF hw1 (c_X7_load l D cy adM adK adV MY 0 (xs (i + 1)) (Y', r) e2) (gW_goodV hg qw1324 qw1321 qw1322 qw1323 qw67) hdX7_load rfl ⟨Nat.le_of_ble_eq_true rfl, Nat.le_of_ble_eq_true rfl⟩ rfl rfl rfl rfl hl.1 rfl (Nat.le_of_ble_eq_true rfl) hf dL_1285 (fun H2 locs2 hw2 => ?_)
  exact lv_icmp_eq (tgt := 1401) hx hb dL_1288 (by decide) (fun _ => kk X' Y' H2 locs2 hw2 e3) (fun z => absurd rfl z)
theorem case_judge (hC : CallFix p m c code 4 s args Ts RL) (hg : ∀ w ∈ gW, w ∈ Ts) (hF : LF D cy adX adM adK adV b s) (hw : LW D cy adX adM b L xs s MX MY H locs) (hr : Rel MX MY) (hl : lv_has ls 4 ((0, .ref b) :: (1, .ref (adX 0)) :: (2, .ref (adM 0)) :: (3, .int (nI i)) :: tl)) (hX : va_X b L xs s s.heap) (hi : i + 6 ≤ L) (hL : L ≤ 384) (hf : cells ≤ room_1.cells ∧ slots ≤ room_1.slots)
    (kk : ∀ (MX' MY' : Mm) (H1 : Heap) (locs1 : List Loc), LW D cy adX adM b L xs s MX' MY' H1 locs1 → Rel MX' MY' → W p l e room_1 s m args below meth c H1 locs1 cells slots Q (F0 m 1401 ls [])) : W p l e room_1 s m args below meth c H locs cells slots Q (F0 m 1293 ls []) := by
  have hx := hC.1
  have hb := hC.2.1
  have hbl := hF.2.2.2.2.2.1
  obtain ⟨X', Y', r, e1, e2, e3⟩ := B_judge hr (xs (i + 1))
  refine lv_aload_n hx hb dL_1293 rfl (lv_at hl 1 rfl) ?_
  refine l_arg (k := 1) hx hb hl hX hbl hw.2.2.2 (by decide) (by omega) hL dL_1294 dL_1295 dL_1296 dL_1297 dL_1298 ?_
  refine l_callXi (As := [.int (xs (i + 1))]) (rest := []) hC hF hw (c_X6_judge l D cy adX adK adV MX 0 (xs (i + 1)) (X', r) e1) (gW_goodV hg qw857 qw854 qw855 qw856 qw60) hdX6_judge rfl ⟨Nat.le_of_ble_eq_true rfl, Nat.le_of_ble_eq_true rfl⟩ rfl rfl rfl rfl hl.1 rfl (Nat.le_of_ble_eq_true rfl) hf dL_1299 (fun H1 locs1 hw1 => ?_)
  refine lv_aload_n hx hb dL_1302 rfl (lv_at hl 2 rfl) ?_
  refine l_arg (k := 1) hx hb hl hX hbl hw1.2.2.2 (by decide) (by omega) hL dL_1303 dL_1304 dL_1305 dL_1306 dL_1307 ?_
  refine l_callMi (As := [.int (xs (i + 1))]) (rest := [.int r]) hC hF hw1 (c_X7_judge l D cy adM adK adV MY 0 (xs (i + 1)) (Y', r) e2) (gW_goodV hg qw1332 qw1329 qw1330 qw1331 qw67) hdX7_judge rfl ⟨Nat.le_of_ble_eq_true rfl, Nat.le_of_ble_eq_true rfl⟩ rfl rfl rfl rfl hl.1 rfl (Nat.le_of_ble_eq_true rfl) hf dL_1308 (fun H2 locs2 hw2 => ?_)
  exact lv_icmp_eq (tgt := 1401) hx hb dL_1311 (by decide) (fun _ => kk X' Y' H2 locs2 hw2 e3) (fun z => absurd rfl z)
theorem case_image (hC : CallFix p m c code 4 s args Ts RL) (hg : ∀ w ∈ gW, w ∈ Ts) (hF : LF D cy adX adM adK adV b s) (hw : LW D cy adX adM b L xs s MX MY H locs) (hr : Rel MX MY) (hl : lv_has ls 4 ((0, .ref b) :: (1, .ref (adX 0)) :: (2, .ref (adM 0)) :: (3, .int (nI i)) :: tl)) (hX : va_X b L xs s s.heap) (hi : i + 6 ≤ L) (hL : L ≤ 384) (hf : cells ≤ room_1.cells ∧ slots ≤ room_1.slots)
    (kk : ∀ (MX' MY' : Mm) (H1 : Heap) (locs1 : List Loc), LW D cy adX adM b L xs s MX' MY' H1 locs1 → Rel MX' MY' → W p l e room_1 s m args below meth c H1 locs1 cells slots Q (F0 m 1401 ls [])) : W p l e room_1 s m args below meth c H locs cells slots Q (F0 m 1316 ls []) := by
  have hx := hC.1
  have hb := hC.2.1
  have hbl := hF.2.2.2.2.2.1
  obtain ⟨X', Y', r, e1, e2, e3⟩ := B_image hr
  refine lv_aload_n hx hb dL_1316 rfl (lv_at hl 1 rfl) ?_
  refine l_callXi (As := []) (rest := []) hC hF hw (c_X6_image l D cy adX adK adV MX 0  (X', r) e1) (gW_goodV hg qw861 qw858 qw859 qw860 qw60) hdX6_image rfl ⟨Nat.le_of_ble_eq_true rfl, Nat.le_of_ble_eq_true rfl⟩ rfl rfl rfl rfl hl.1 rfl (Nat.le_of_ble_eq_true rfl) hf dL_1317 (fun H1 locs1 hw1 => ?_)
  refine lv_aload_n hx hb dL_1320 rfl (lv_at hl 2 rfl) ?_
  refine l_callMi (As := []) (rest := [.int r]) hC hF hw1 (c_X7_image l D cy adM adK adV MY 0  (Y', r) e2) (gW_goodV hg qw1336 qw1333 qw1334 qw1335 qw67) hdX7_image rfl ⟨Nat.le_of_ble_eq_true rfl, Nat.le_of_ble_eq_true rfl⟩ rfl rfl rfl rfl hl.1 rfl (Nat.le_of_ble_eq_true rfl) hf dL_1321 (fun H2 locs2 hw2 => ?_)
  exact lv_icmp_eq (tgt := 1401) hx hb dL_1324 (by decide) (fun _ => kk X' Y' H2 locs2 hw2 e3) (fun z => absurd rfl z)
theorem case_undo (hC : CallFix p m c code 4 s args Ts RL) (hg : ∀ w ∈ gW, w ∈ Ts) (hF : LF D cy adX adM adK adV b s) (hw : LW D cy adX adM b L xs s MX MY H locs) (hr : Rel MX MY) (hl : lv_has ls 4 ((0, .ref b) :: (1, .ref (adX 0)) :: (2, .ref (adM 0)) :: (3, .int (nI i)) :: tl)) (hX : va_X b L xs s s.heap) (hi : i + 6 ≤ L) (hL : L ≤ 384) (hf : cells ≤ room_1.cells ∧ slots ≤ room_1.slots)
    (kk : ∀ (MX' MY' : Mm) (H1 : Heap) (locs1 : List Loc), LW D cy adX adM b L xs s MX' MY' H1 locs1 → Rel MX' MY' → W p l e room_1 s m args below meth c H1 locs1 cells slots Q (F0 m 1401 ls [])) : W p l e room_1 s m args below meth c H locs cells slots Q (F0 m 1329 ls []) := by
  have hx := hC.1
  have hb := hC.2.1
  have hbl := hF.2.2.2.2.2.1
  obtain ⟨X', Y', r, e1, e2, e3⟩ := B_undo hr
  refine lv_aload_n hx hb dL_1329 rfl (lv_at hl 1 rfl) ?_
  refine l_callXi (As := []) (rest := []) hC hF hw (c_X6_undo l D cy adX adK adV MX 0  (X', r) e1) (gW_goodV hg qw865 qw862 qw863 qw864 qw60) hdX6_undo rfl ⟨Nat.le_of_ble_eq_true rfl, Nat.le_of_ble_eq_true rfl⟩ rfl rfl rfl rfl hl.1 rfl (Nat.le_of_ble_eq_true rfl) hf dL_1330 (fun H1 locs1 hw1 => ?_)
  refine lv_aload_n hx hb dL_1333 rfl (lv_at hl 2 rfl) ?_
  refine l_callMi (As := []) (rest := [.int r]) hC hF hw1 (c_X7_undo l D cy adM adK adV MY 0  (Y', r) e2) (gW_goodV hg qw1340 qw1337 qw1338 qw1339 qw67) hdX7_undo rfl ⟨Nat.le_of_ble_eq_true rfl, Nat.le_of_ble_eq_true rfl⟩ rfl rfl rfl rfl hl.1 rfl (Nat.le_of_ble_eq_true rfl) hf dL_1334 (fun H2 locs2 hw2 => ?_)
  exact lv_icmp_eq (tgt := 1401) hx hb dL_1337 (by decide) (fun _ => kk X' Y' H2 locs2 hw2 e3) (fun z => absurd rfl z)
theorem case_tear (hC : CallFix p m c code 4 s args Ts RL) (hg : ∀ w ∈ gW, w ∈ Ts) (hF : LF D cy adX adM adK adV b s) (hw : LW D cy adX adM b L xs s MX MY H locs) (hr : Rel MX MY) (hl : lv_has ls 4 ((0, .ref b) :: (1, .ref (adX 0)) :: (2, .ref (adM 0)) :: (3, .int (nI i)) :: tl)) (hX : va_X b L xs s s.heap) (hi : i + 6 ≤ L) (hL : L ≤ 384) (hf : cells ≤ room_1.cells ∧ slots ≤ room_1.slots)
    (kk : ∀ (MX' MY' : Mm) (H1 : Heap) (locs1 : List Loc), LW D cy adX adM b L xs s MX' MY' H1 locs1 → Rel MX' MY' → W p l e room_1 s m args below meth c H1 locs1 cells slots Q (F0 m 1401 ls [])) : W p l e room_1 s m args below meth c H locs cells slots Q (F0 m 1342 ls []) := by
  have hx := hC.1
  have hb := hC.2.1
  have hbl := hF.2.2.2.2.2.1
  obtain ⟨X', Y', r, e1, e2, e3⟩ := B_tear hr
  refine lv_aload_n hx hb dL_1342 rfl (lv_at hl 1 rfl) ?_
  refine l_callXi (As := []) (rest := []) hC hF hw (c_X6_tear l D cy adX adK adV MX 0  (X', r) e1) (gW_goodV hg qw869 qw866 qw867 qw868 qw60) hdX6_tear rfl ⟨Nat.le_of_ble_eq_true rfl, Nat.le_of_ble_eq_true rfl⟩ rfl rfl rfl rfl hl.1 rfl (Nat.le_of_ble_eq_true rfl) hf dL_1343 (fun H1 locs1 hw1 => ?_)
  refine lv_aload_n hx hb dL_1346 rfl (lv_at hl 2 rfl) ?_
  refine l_callMi (As := []) (rest := [.int r]) hC hF hw1 (c_X7_tear l D cy adM adK adV MY 0  (Y', r) e2) (gW_goodV hg qw1344 qw1341 qw1342 qw1343 qw67) hdX7_tear rfl ⟨Nat.le_of_ble_eq_true rfl, Nat.le_of_ble_eq_true rfl⟩ rfl rfl rfl rfl hl.1 rfl (Nat.le_of_ble_eq_true rfl) hf dL_1347 (fun H2 locs2 hw2 => ?_)
  exact lv_icmp_eq (tgt := 1401) hx hb dL_1350 (by decide) (fun _ => kk X' Y' H2 locs2 hw2 e3) (fun z => absurd rfl z)
theorem case_count (hC : CallFix p m c code 4 s args Ts RL) (hg : ∀ w ∈ gW, w ∈ Ts) (hF : LF D cy adX adM adK adV b s) (hw : LW D cy adX adM b L xs s MX MY H locs) (hr : Rel MX MY) (hl : lv_has ls 4 ((0, .ref b) :: (1, .ref (adX 0)) :: (2, .ref (adM 0)) :: (3, .int (nI i)) :: tl)) (hX : va_X b L xs s s.heap) (hi : i + 6 ≤ L) (hL : L ≤ 384) (hf : cells ≤ room_1.cells ∧ slots ≤ room_1.slots)
    (kk : ∀ (MX' MY' : Mm) (H1 : Heap) (locs1 : List Loc), LW D cy adX adM b L xs s MX' MY' H1 locs1 → Rel MX' MY' → W p l e room_1 s m args below meth c H1 locs1 cells slots Q (F0 m 1401 ls [])) : W p l e room_1 s m args below meth c H locs cells slots Q (F0 m 1355 ls []) := by
  have hx := hC.1
  have hb := hC.2.1
  have hbl := hF.2.2.2.2.2.1
  obtain ⟨X', Y', r, e1, e2, e3⟩ := B_count hr (xs (i + 1))
  refine lv_aload_n hx hb dL_1355 rfl (lv_at hl 1 rfl) ?_
  refine l_arg (k := 1) hx hb hl hX hbl hw.2.2.2 (by decide) (by omega) hL dL_1356 dL_1357 dL_1358 dL_1359 dL_1360 ?_
  refine l_callXi (As := [.int (xs (i + 1))]) (rest := []) hC hF hw (c_X6_count l D cy adX adK adV MX 0 (xs (i + 1)) (X', r) e1) (gW_goodV hg qw873 qw870 qw871 qw872 qw60) hdX6_count rfl ⟨Nat.le_of_ble_eq_true rfl, Nat.le_of_ble_eq_true rfl⟩ rfl rfl rfl rfl hl.1 rfl (Nat.le_of_ble_eq_true rfl) hf dL_1361 (fun H1 locs1 hw1 => ?_)
  refine lv_aload_n hx hb dL_1364 rfl (lv_at hl 2 rfl) ?_
  refine l_arg (k := 1) hx hb hl hX hbl hw1.2.2.2 (by decide) (by omega) hL dL_1365 dL_1366 dL_1367 dL_1368 dL_1369 ?_
  refine l_callMi (As := [.int (xs (i + 1))]) (rest := [.int r]) hC hF hw1 (c_X7_count l D cy adM adK adV MY 0 (xs (i + 1)) (Y', r) e2) (gW_goodV hg qw1348 qw1345 qw1346 qw1347 qw67) hdX7_count rfl ⟨Nat.le_of_ble_eq_true rfl, Nat.le_of_ble_eq_true rfl⟩ rfl rfl rfl rfl hl.1 rfl (Nat.le_of_ble_eq_true rfl) hf dL_1370 (fun H2 locs2 hw2 => ?_)
  exact lv_icmp_eq (tgt := 1401) hx hb dL_1373 (by decide) (fun _ => kk X' Y' H2 locs2 hw2 e3) (fun z => absurd rfl z)
theorem case_status (hC : CallFix p m c code 4 s args Ts RL) (hg : ∀ w ∈ gW, w ∈ Ts) (hF : LF D cy adX adM adK adV b s) (hw : LW D cy adX adM b L xs s MX MY H locs) (hr : Rel MX MY) (hl : lv_has ls 4 ((0, .ref b) :: (1, .ref (adX 0)) :: (2, .ref (adM 0)) :: (3, .int (nI i)) :: tl)) (hX : va_X b L xs s s.heap) (hi : i + 6 ≤ L) (hL : L ≤ 384) (hf : cells ≤ room_1.cells ∧ slots ≤ room_1.slots)
    (kk : ∀ (MX' MY' : Mm) (H1 : Heap) (locs1 : List Loc), LW D cy adX adM b L xs s MX' MY' H1 locs1 → Rel MX' MY' → W p l e room_1 s m args below meth c H1 locs1 cells slots Q (F0 m 1401 ls [])) : W p l e room_1 s m args below meth c H locs cells slots Q (F0 m 1378 ls []) := by
  have hx := hC.1
  have hb := hC.2.1
  have hbl := hF.2.2.2.2.2.1
  obtain ⟨X', Y', r, e1, e2, e3⟩ := B_status hr (xs (i + 1))
  refine lv_aload_n hx hb dL_1378 rfl (lv_at hl 1 rfl) ?_
  refine l_arg (k := 1) hx hb hl hX hbl hw.2.2.2 (by decide) (by omega) hL dL_1379 dL_1380 dL_1381 dL_1382 dL_1383 ?_
  refine l_callXi (As := [.int (xs (i + 1))]) (rest := []) hC hF hw (c_X6_status l D cy adX adK adV MX 0 (xs (i + 1)) (X', r) e1) (gW_goodV hg qw881 qw878 qw879 qw880 qw60) hdX6_status rfl ⟨Nat.le_of_ble_eq_true rfl, Nat.le_of_ble_eq_true rfl⟩ rfl rfl rfl rfl hl.1 rfl (Nat.le_of_ble_eq_true rfl) hf dL_1384 (fun H1 locs1 hw1 => ?_)
  refine lv_aload_n hx hb dL_1387 rfl (lv_at hl 2 rfl) ?_
  refine l_arg (k := 1) hx hb hl hX hbl hw1.2.2.2 (by decide) (by omega) hL dL_1388 dL_1389 dL_1390 dL_1391 dL_1392 ?_
  refine l_callMi (As := [.int (xs (i + 1))]) (rest := [.int r]) hC hF hw1 (c_X7_status l D cy adM adK adV MY 0 (xs (i + 1)) (Y', r) e2) (gW_goodV hg qw1352 qw1349 qw1350 qw1351 qw67) hdX7_status rfl ⟨Nat.le_of_ble_eq_true rfl, Nat.le_of_ble_eq_true rfl⟩ rfl rfl rfl rfl hl.1 rfl (Nat.le_of_ble_eq_true rfl) hf dL_1393 (fun H2 locs2 hw2 => ?_)
  exact lv_icmp_eq (tgt := 1401) hx hb dL_1396 (by decide) (fun _ => kk X' Y' H2 locs2 hw2 e3) (fun z => absurd rfl z)
end LC
