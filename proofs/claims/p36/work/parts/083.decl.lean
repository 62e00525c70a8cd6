def LL_law_1 : List (Nat × Instr × Nat) := [(378, .iconst 5, 1), (379, .iadd, 1), (380, .iaload, 1), (381, .invokevirtual 22, 3), (384, .pop, 1), (385, .goto 2360, 3), (388, .aload_n 1, 1), (389, .aload_n 0, 1), (390, .iload_n 3, 1), (391, .iconst 1, 1), (392, .iadd, 1), (393, .iaload, 1), (394, .aload_n 0, 1), (395, .iload_n 3, 1), (396, .iconst 2, 1), (397, .iadd, 1), (398, .iaload, 1), (399, .invokevirtual 23, 3), (402, .pop, 1), (403, .aload_n 2, 1), (404, .aload_n 0, 1), (405, .iload_n 3, 1), (406, .iconst 1, 1), (407, .iadd, 1), (408, .iaload, 1), (409, .aload_n 0, 1), (410, .iload_n 3, 1), (411, .iconst 2, 1), (412, .iadd, 1), (413, .iaload, 1), (414, .invokevirtual 26, 3), (417, .pop, 1), (418, .goto 2327, 3), (421, .aload_n 1, 1), (422, .aload_n 0, 1), (423, .iload_n 3, 1), (424, .iconst 1, 1), (425, .iadd, 1), (426, .iaload, 1), (427, .ifCond .eq 7, 3), (430, .iconst 1, 1), (431, .goto 4, 3), (434, .iconst 0, 1), (435, .invokevirtual 27, 3), (438, .pop, 1), (439, .aload_n 2, 1), (440, .aload_n 0, 1), (441, .iload_n 3, 1), (442, .iconst 1, 1), (443, .iadd, 1), (444, .iaload, 1), (445, .ifCond .eq 7, 3), (448, .iconst 1, 1), (449, .goto 4, 3), (452, .iconst 0, 1), (453, .invokevirtual 31, 3), (456, .pop, 1), (457, .goto 2288, 3), (460, .aload_n 1, 1), (461, .aload_n 0, 1), (462, .iload_n 3, 1), (463, .iconst 1, 1), (464, .iadd, 1), (465, .iaload, 1), (466, .aload_n 0, 1), (467, .iload_n 3, 1), (468, .iconst 2, 1), (469, .iadd, 1), (470, .iaload, 1), (471, .aload_n 0, 1), (472, .iload_n 3, 1), (473, .iconst 3, 1), (474, .iadd, 1), (475, .iaload, 1), (476, .aload_n 0, 1), (477, .iload_n 3, 1), (478, .iconst 4, 1), (479, .iadd, 1), (480, .iaload, 1), (481, .invokevirtual 32, 3), (484, .pop, 1), (485, .aload_n 2, 1), (486, .aload_n 0, 1), (487, .iload_n 3, 1), (488, .iconst 1, 1), (489, .iadd, 1), (490, .iaload, 1), (491, .aload_n 0, 1), (492, .iload_n 3, 1), (493, .iconst 2, 1), (494, .iadd, 1), (495, .iaload, 1), (496, .aload_n 0, 1), (497, .iload_n 3, 1), (498, .iconst 3, 1), (499, .iadd, 1), (500, .iaload, 1), (501, .aload_n 0, 1), (502, .iload_n 3, 1), (503, .iconst 4, 1)]
theorem kL_law_1 : chkB code LL_law_1 = true := by decide +kernel
theorem dL_law_378 : decode code 378 = .ok (.iconst 5, 1) := getB' kL_law_1 0 rfl
theorem dL_law_379 : decode code 379 = .ok (.iadd, 1) := getB' kL_law_1 1 rfl
theorem dL_law_380 : decode code 380 = .ok (.iaload, 1) := getB' kL_law_1 2 rfl
theorem dL_law_381 : decode code 381 = .ok (.invokevirtual 22, 3) := getB' kL_law_1 3 rfl
theorem dL_law_384 : decode code 384 = .ok (.pop, 1) := getB' kL_law_1 4 rfl
theorem dL_law_385 : decode code 385 = .ok (.goto 2360, 3) := getB' kL_law_1 5 rfl
theorem dL_law_388 : decode code 388 = .ok (.aload_n 1, 1) := getB' kL_law_1 6 rfl
theorem dL_law_389 : decode code 389 = .ok (.aload_n 0, 1) := getB' kL_law_1 7 rfl
theorem dL_law_390 : decode code 390 = .ok (.iload_n 3, 1) := getB' kL_law_1 8 rfl
theorem dL_law_391 : decode code 391 = .ok (.iconst 1, 1) := getB' kL_law_1 9 rfl
theorem dL_law_392 : decode code 392 = .ok (.iadd, 1) := getB' kL_law_1 10 rfl
theorem dL_law_393 : decode code 393 = .ok (.iaload, 1) := getB' kL_law_1 11 rfl
theorem dL_law_394 : decode code 394 = .ok (.aload_n 0, 1) := getB' kL_law_1 12 rfl
theorem dL_law_395 : decode code 395 = .ok (.iload_n 3, 1) := getB' kL_law_1 13 rfl
theorem dL_law_396 : decode code 396 = .ok (.iconst 2, 1) := getB' kL_law_1 14 rfl
theorem dL_law_397 : decode code 397 = .ok (.iadd, 1) := getB' kL_law_1 15 rfl
theorem dL_law_398 : decode code 398 = .ok (.iaload, 1) := getB' kL_law_1 16 rfl
theorem dL_law_399 : decode code 399 = .ok (.invokevirtual 23, 3) := getB' kL_law_1 17 rfl
theorem dL_law_402 : decode code 402 = .ok (.pop, 1) := getB' kL_law_1 18 rfl
theorem dL_law_403 : decode code 403 = .ok (.aload_n 2, 1) := getB' kL_law_1 19 rfl
theorem dL_law_404 : decode code 404 = .ok (.aload_n 0, 1) := getB' kL_law_1 20 rfl
theorem dL_law_405 : decode code 405 = .ok (.iload_n 3, 1) := getB' kL_law_1 21 rfl
theorem dL_law_406 : decode code 406 = .ok (.iconst 1, 1) := getB' kL_law_1 22 rfl
theorem dL_law_407 : decode code 407 = .ok (.iadd, 1) := getB' kL_law_1 23 rfl
theorem dL_law_408 : decode code 408 = .ok (.iaload, 1) := getB' kL_law_1 24 rfl
theorem dL_law_409 : decode code 409 = .ok (.aload_n 0, 1) := getB' kL_law_1 25 rfl
theorem dL_law_410 : decode code 410 = .ok (.iload_n 3, 1) := getB' kL_law_1 26 rfl
theorem dL_law_411 : decode code 411 = .ok (.iconst 2, 1) := getB' kL_law_1 27 rfl
theorem dL_law_412 : decode code 412 = .ok (.iadd, 1) := getB' kL_law_1 28 rfl
theorem dL_law_413 : decode code 413 = .ok (.iaload, 1) := getB' kL_law_1 29 rfl
theorem dL_law_414 : decode code 414 = .ok (.invokevirtual 26, 3) := getB' kL_law_1 30 rfl
theorem dL_law_417 : decode code 417 = .ok (.pop, 1) := getB' kL_law_1 31 rfl
theorem dL_law_418 : decode code 418 = .ok (.goto 2327, 3) := getB' kL_law_1 32 rfl
theorem dL_law_421 : decode code 421 = .ok (.aload_n 1, 1) := getB' kL_law_1 33 rfl
theorem dL_law_422 : decode code 422 = .ok (.aload_n 0, 1) := getB' kL_law_1 34 rfl
theorem dL_law_423 : decode code 423 = .ok (.iload_n 3, 1) := getB' kL_law_1 35 rfl
theorem dL_law_424 : decode code 424 = .ok (.iconst 1, 1) := getB' kL_law_1 36 rfl
theorem dL_law_425 : decode code 425 = .ok (.iadd, 1) := getB' kL_law_1 37 rfl
theorem dL_law_426 : decode code 426 = .ok (.iaload, 1) := getB' kL_law_1 38 rfl
theorem dL_law_427 : decode code 427 = .ok (.ifCond .eq 7, 3) := getB' kL_law_1 39 rfl
theorem dL_law_430 : decode code 430 = .ok (.iconst 1, 1) := getB' kL_law_1 40 rfl
theorem dL_law_431 : decode code 431 = .ok (.goto 4, 3) := getB' kL_law_1 41 rfl
theorem dL_law_434 : decode code 434 = .ok (.iconst 0, 1) := getB' kL_law_1 42 rfl
theorem dL_law_435 : decode code 435 = .ok (.invokevirtual 27, 3) := getB' kL_law_1 43 rfl
theorem dL_law_438 : decode code 438 = .ok (.pop, 1) := getB' kL_law_1 44 rfl
theorem dL_law_439 : decode code 439 = .ok (.aload_n 2, 1) := getB' kL_law_1 45 rfl
theorem dL_law_440 : decode code 440 = .ok (.aload_n 0, 1) := getB' kL_law_1 46 rfl
theorem dL_law_441 : decode code 441 = .ok (.iload_n 3, 1) := getB' kL_law_1 47 rfl
theorem dL_law_442 : decode code 442 = .ok (.iconst 1, 1) := getB' kL_law_1 48 rfl
theorem dL_law_443 : decode code 443 = .ok (.iadd, 1) := getB' kL_law_1 49 rfl
theorem dL_law_444 : decode code 444 = .ok (.iaload, 1) := getB' kL_law_1 50 rfl
theorem dL_law_445 : decode code 445 = .ok (.ifCond .eq 7, 3) := getB' kL_law_1 51 rfl
theorem dL_law_448 : decode code 448 = .ok (.iconst 1, 1) := getB' kL_law_1 52 rfl
theorem dL_law_449 : decode code 449 = .ok (.goto 4, 3) := getB' kL_law_1 53 rfl
theorem dL_law_452 : decode code 452 = .ok (.iconst 0, 1) := getB' kL_law_1 54 rfl
theorem dL_law_453 : decode code 453 = .ok (.invokevirtual 31, 3) := getB' kL_law_1 55 rfl
theorem dL_law_456 : decode code 456 = .ok (.pop, 1) := getB' kL_law_1 56 rfl
theorem dL_law_457 : decode code 457 = .ok (.goto 2288, 3) := getB' kL_law_1 57 rfl
theorem dL_law_460 : decode code 460 = .ok (.aload_n 1, 1) := getB' kL_law_1 58 rfl
theorem dL_law_461 : decode code 461 = .ok (.aload_n 0, 1) := getB' kL_law_1 59 rfl
theorem dL_law_462 : decode code 462 = .ok (.iload_n 3, 1) := getB' kL_law_1 60 rfl
theorem dL_law_463 : decode code 463 = .ok (.iconst 1, 1) := getB' kL_law_1 61 rfl
theorem dL_law_464 : decode code 464 = .ok (.iadd, 1) := getB' kL_law_1 62 rfl
theorem dL_law_465 : decode code 465 = .ok (.iaload, 1) := getB' kL_law_1 63 rfl
theorem dL_law_466 : decode code 466 = .ok (.aload_n 0, 1) := getB' kL_law_1 64 rfl
theorem dL_law_467 : decode code 467 = .ok (.iload_n 3, 1) := getB' kL_law_1 65 rfl
theorem dL_law_468 : decode code 468 = .ok (.iconst 2, 1) := getB' kL_law_1 66 rfl
theorem dL_law_469 : decode code 469 = .ok (.iadd, 1) := getB' kL_law_1 67 rfl
theorem dL_law_470 : decode code 470 = .ok (.iaload, 1) := getB' kL_law_1 68 rfl
theorem dL_law_471 : decode code 471 = .ok (.aload_n 0, 1) := getB' kL_law_1 69 rfl
theorem dL_law_472 : decode code 472 = .ok (.iload_n 3, 1) := getB' kL_law_1 70 rfl
theorem dL_law_473 : decode code 473 = .ok (.iconst 3, 1) := getB' kL_law_1 71 rfl
theorem dL_law_474 : decode code 474 = .ok (.iadd, 1) := getB' kL_law_1 72 rfl
theorem dL_law_475 : decode code 475 = .ok (.iaload, 1) := getB' kL_law_1 73 rfl
theorem dL_law_476 : decode code 476 = .ok (.aload_n 0, 1) := getB' kL_law_1 74 rfl
theorem dL_law_477 : decode code 477 = .ok (.iload_n 3, 1) := getB' kL_law_1 75 rfl
theorem dL_law_478 : decode code 478 = .ok (.iconst 4, 1) := getB' kL_law_1 76 rfl
theorem dL_law_479 : decode code 479 = .ok (.iadd, 1) := getB' kL_law_1 77 rfl
theorem dL_law_480 : decode code 480 = .ok (.iaload, 1) := getB' kL_law_1 78 rfl
theorem dL_law_481 : decode code 481 = .ok (.invokevirtual 32, 3) := getB' kL_law_1 79 rfl
theorem dL_law_484 : decode code 484 = .ok (.pop, 1) := getB' kL_law_1 80 rfl
theorem dL_law_485 : decode code 485 = .ok (.aload_n 2, 1) := getB' kL_law_1 81 rfl
theorem dL_law_486 : decode code 486 = .ok (.aload_n 0, 1) := getB' kL_law_1 82 rfl
theorem dL_law_487 : decode code 487 = .ok (.iload_n 3, 1) := getB' kL_law_1 83 rfl
theorem dL_law_488 : decode code 488 = .ok (.iconst 1, 1) := getB' kL_law_1 84 rfl
theorem dL_law_489 : decode code 489 = .ok (.iadd, 1) := getB' kL_law_1 85 rfl
theorem dL_law_490 : decode code 490 = .ok (.iaload, 1) := getB' kL_law_1 86 rfl
theorem dL_law_491 : decode code 491 = .ok (.aload_n 0, 1) := getB' kL_law_1 87 rfl
theorem dL_law_492 : decode code 492 = .ok (.iload_n 3, 1) := getB' kL_law_1 88 rfl
theorem dL_law_493 : decode code 493 = .ok (.iconst 2, 1) := getB' kL_law_1 89 rfl
theorem dL_law_494 : decode code 494 = .ok (.iadd, 1) := getB' kL_law_1 90 rfl
theorem dL_law_495 : decode code 495 = .ok (.iaload, 1) := getB' kL_law_1 91 rfl
theorem dL_law_496 : decode code 496 = .ok (.aload_n 0, 1) := getB' kL_law_1 92 rfl
theorem dL_law_497 : decode code 497 = .ok (.iload_n 3, 1) := getB' kL_law_1 93 rfl
theorem dL_law_498 : decode code 498 = .ok (.iconst 3, 1) := getB' kL_law_1 94 rfl
theorem dL_law_499 : decode code 499 = .ok (.iadd, 1) := getB' kL_law_1 95 rfl
theorem dL_law_500 : decode code 500 = .ok (.iaload, 1) := getB' kL_law_1 96 rfl
theorem dL_law_501 : decode code 501 = .ok (.aload_n 0, 1) := getB' kL_law_1 97 rfl
theorem dL_law_502 : decode code 502 = .ok (.iload_n 3, 1) := getB' kL_law_1 98 rfl
theorem dL_law_503 : decode code 503 = .ok (.iconst 4, 1) := getB' kL_law_1 99 rfl
