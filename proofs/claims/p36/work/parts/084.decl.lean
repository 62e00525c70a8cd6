def LL_law_2 : List (Nat × Instr × Nat) := [(504, .iadd, 1), (505, .iaload, 1), (506, .invokevirtual 36, 3), (509, .pop, 1), (510, .goto 2235, 3), (513, .aload_n 1, 1), (514, .aload_n 0, 1), (515, .iload_n 3, 1), (516, .iconst 1, 1), (517, .iadd, 1), (518, .iaload, 1), (519, .aload_n 0, 1), (520, .iload_n 3, 1), (521, .iconst 2, 1), (522, .iadd, 1), (523, .iaload, 1), (524, .invokevirtual 37, 3), (527, .pop, 1), (528, .aload_n 2, 1), (529, .aload_n 0, 1), (530, .iload_n 3, 1), (531, .iconst 1, 1), (532, .iadd, 1), (533, .iaload, 1), (534, .aload_n 0, 1), (535, .iload_n 3, 1), (536, .iconst 2, 1), (537, .iadd, 1), (538, .iaload, 1), (539, .invokevirtual 40, 3), (542, .pop, 1), (543, .goto 2202, 3), (546, .aload_n 1, 1), (547, .aload_n 0, 1), (548, .iload_n 3, 1), (549, .iconst 1, 1), (550, .iadd, 1), (551, .iaload, 1), (552, .aload_n 0, 1), (553, .iload_n 3, 1), (554, .iconst 2, 1), (555, .iadd, 1), (556, .iaload, 1), (557, .aload_n 0, 1), (558, .iload_n 3, 1), (559, .iconst 3, 1), (560, .iadd, 1), (561, .iaload, 1), (562, .aload_n 0, 1), (563, .iload_n 3, 1), (564, .iconst 4, 1), (565, .iadd, 1), (566, .iaload, 1), (567, .invokevirtual 41, 3), (570, .pop, 1), (571, .aload_n 2, 1), (572, .aload_n 0, 1), (573, .iload_n 3, 1), (574, .iconst 1, 1), (575, .iadd, 1), (576, .iaload, 1), (577, .aload_n 0, 1), (578, .iload_n 3, 1), (579, .iconst 2, 1), (580, .iadd, 1), (581, .iaload, 1), (582, .aload_n 0, 1), (583, .iload_n 3, 1), (584, .iconst 3, 1), (585, .iadd, 1), (586, .iaload, 1), (587, .aload_n 0, 1), (588, .iload_n 3, 1), (589, .iconst 4, 1), (590, .iadd, 1), (591, .iaload, 1), (592, .invokevirtual 44, 3), (595, .pop, 1), (596, .goto 2149, 3), (599, .aload_n 1, 1), (600, .aload_n 0, 1), (601, .iload_n 3, 1), (602, .iconst 1, 1), (603, .iadd, 1), (604, .iaload, 1), (605, .aload_n 0, 1), (606, .iload_n 3, 1), (607, .iconst 2, 1), (608, .iadd, 1), (609, .iaload, 1), (610, .invokevirtual 45, 3), (613, .pop, 1), (614, .aload_n 2, 1), (615, .aload_n 0, 1), (616, .iload_n 3, 1), (617, .iconst 1, 1), (618, .iadd, 1), (619, .iaload, 1), (620, .aload_n 0, 1), (621, .iload_n 3, 1)]
theorem kL_law_2 : chkB code LL_law_2 = true := by decide +kernel
theorem dL_law_504 : decode code 504 = .ok (.iadd, 1) := getB' kL_law_2 0 rfl
theorem dL_law_505 : decode code 505 = .ok (.iaload, 1) := getB' kL_law_2 1 rfl
theorem dL_law_506 : decode code 506 = .ok (.invokevirtual 36, 3) := getB' kL_law_2 2 rfl
theorem dL_law_509 : decode code 509 = .ok (.pop, 1) := getB' kL_law_2 3 rfl
theorem dL_law_510 : decode code 510 = .ok (.goto 2235, 3) := getB' kL_law_2 4 rfl
theorem dL_law_513 : decode code 513 = .ok (.aload_n 1, 1) := getB' kL_law_2 5 rfl
theorem dL_law_514 : decode code 514 = .ok (.aload_n 0, 1) := getB' kL_law_2 6 rfl
theorem dL_law_515 : decode code 515 = .ok (.iload_n 3, 1) := getB' kL_law_2 7 rfl
theorem dL_law_516 : decode code 516 = .ok (.iconst 1, 1) := getB' kL_law_2 8 rfl
theorem dL_law_517 : decode code 517 = .ok (.iadd, 1) := getB' kL_law_2 9 rfl
theorem dL_law_518 : decode code 518 = .ok (.iaload, 1) := getB' kL_law_2 10 rfl
theorem dL_law_519 : decode code 519 = .ok (.aload_n 0, 1) := getB' kL_law_2 11 rfl
theorem dL_law_520 : decode code 520 = .ok (.iload_n 3, 1) := getB' kL_law_2 12 rfl
theorem dL_law_521 : decode code 521 = .ok (.iconst 2, 1) := getB' kL_law_2 13 rfl
theorem dL_law_522 : decode code 522 = .ok (.iadd, 1) := getB' kL_law_2 14 rfl
theorem dL_law_523 : decode code 523 = .ok (.iaload, 1) := getB' kL_law_2 15 rfl
theorem dL_law_524 : decode code 524 = .ok (.invokevirtual 37, 3) := getB' kL_law_2 16 rfl
theorem dL_law_527 : decode code 527 = .ok (.pop, 1) := getB' kL_law_2 17 rfl
theorem dL_law_528 : decode code 528 = .ok (.aload_n 2, 1) := getB' kL_law_2 18 rfl
theorem dL_law_529 : decode code 529 = .ok (.aload_n 0, 1) := getB' kL_law_2 19 rfl
theorem dL_law_530 : decode code 530 = .ok (.iload_n 3, 1) := getB' kL_law_2 20 rfl
theorem dL_law_531 : decode code 531 = .ok (.iconst 1, 1) := getB' kL_law_2 21 rfl
theorem dL_law_532 : decode code 532 = .ok (.iadd, 1) := getB' kL_law_2 22 rfl
theorem dL_law_533 : decode code 533 = .ok (.iaload, 1) := getB' kL_law_2 23 rfl
theorem dL_law_534 : decode code 534 = .ok (.aload_n 0, 1) := getB' kL_law_2 24 rfl
theorem dL_law_535 : decode code 535 = .ok (.iload_n 3, 1) := getB' kL_law_2 25 rfl
theorem dL_law_536 : decode code 536 = .ok (.iconst 2, 1) := getB' kL_law_2 26 rfl
theorem dL_law_537 : decode code 537 = .ok (.iadd, 1) := getB' kL_law_2 27 rfl
theorem dL_law_538 : decode code 538 = .ok (.iaload, 1) := getB' kL_law_2 28 rfl
theorem dL_law_539 : decode code 539 = .ok (.invokevirtual 40, 3) := getB' kL_law_2 29 rfl
theorem dL_law_542 : decode code 542 = .ok (.pop, 1) := getB' kL_law_2 30 rfl
theorem dL_law_543 : decode code 543 = .ok (.goto 2202, 3) := getB' kL_law_2 31 rfl
theorem dL_law_546 : decode code 546 = .ok (.aload_n 1, 1) := getB' kL_law_2 32 rfl
theorem dL_law_547 : decode code 547 = .ok (.aload_n 0, 1) := getB' kL_law_2 33 rfl
theorem dL_law_548 : decode code 548 = .ok (.iload_n 3, 1) := getB' kL_law_2 34 rfl
theorem dL_law_549 : decode code 549 = .ok (.iconst 1, 1) := getB' kL_law_2 35 rfl
theorem dL_law_550 : decode code 550 = .ok (.iadd, 1) := getB' kL_law_2 36 rfl
theorem dL_law_551 : decode code 551 = .ok (.iaload, 1) := getB' kL_law_2 37 rfl
theorem dL_law_552 : decode code 552 = .ok (.aload_n 0, 1) := getB' kL_law_2 38 rfl
theorem dL_law_553 : decode code 553 = .ok (.iload_n 3, 1) := getB' kL_law_2 39 rfl
theorem dL_law_554 : decode code 554 = .ok (.iconst 2, 1) := getB' kL_law_2 40 rfl
theorem dL_law_555 : decode code 555 = .ok (.iadd, 1) := getB' kL_law_2 41 rfl
theorem dL_law_556 : decode code 556 = .ok (.iaload, 1) := getB' kL_law_2 42 rfl
theorem dL_law_557 : decode code 557 = .ok (.aload_n 0, 1) := getB' kL_law_2 43 rfl
theorem dL_law_558 : decode code 558 = .ok (.iload_n 3, 1) := getB' kL_law_2 44 rfl
theorem dL_law_559 : decode code 559 = .ok (.iconst 3, 1) := getB' kL_law_2 45 rfl
theorem dL_law_560 : decode code 560 = .ok (.iadd, 1) := getB' kL_law_2 46 rfl
theorem dL_law_561 : decode code 561 = .ok (.iaload, 1) := getB' kL_law_2 47 rfl
theorem dL_law_562 : decode code 562 = .ok (.aload_n 0, 1) := getB' kL_law_2 48 rfl
theorem dL_law_563 : decode code 563 = .ok (.iload_n 3, 1) := getB' kL_law_2 49 rfl
theorem dL_law_564 : decode code 564 = .ok (.iconst 4, 1) := getB' kL_law_2 50 rfl
theorem dL_law_565 : decode code 565 = .ok (.iadd, 1) := getB' kL_law_2 51 rfl
theorem dL_law_566 : decode code 566 = .ok (.iaload, 1) := getB' kL_law_2 52 rfl
theorem dL_law_567 : decode code 567 = .ok (.invokevirtual 41, 3) := getB' kL_law_2 53 rfl
theorem dL_law_570 : decode code 570 = .ok (.pop, 1) := getB' kL_law_2 54 rfl
theorem dL_law_571 : decode code 571 = .ok (.aload_n 2, 1) := getB' kL_law_2 55 rfl
theorem dL_law_572 : decode code 572 = .ok (.aload_n 0, 1) := getB' kL_law_2 56 rfl
theorem dL_law_573 : decode code 573 = .ok (.iload_n 3, 1) := getB' kL_law_2 57 rfl
theorem dL_law_574 : decode code 574 = .ok (.iconst 1, 1) := getB' kL_law_2 58 rfl
theorem dL_law_575 : decode code 575 = .ok (.iadd, 1) := getB' kL_law_2 59 rfl
theorem dL_law_576 : decode code 576 = .ok (.iaload, 1) := getB' kL_law_2 60 rfl
theorem dL_law_577 : decode code 577 = .ok (.aload_n 0, 1) := getB' kL_law_2 61 rfl
theorem dL_law_578 : decode code 578 = .ok (.iload_n 3, 1) := getB' kL_law_2 62 rfl
theorem dL_law_579 : decode code 579 = .ok (.iconst 2, 1) := getB' kL_law_2 63 rfl
theorem dL_law_580 : decode code 580 = .ok (.iadd, 1) := getB' kL_law_2 64 rfl
theorem dL_law_581 : decode code 581 = .ok (.iaload, 1) := getB' kL_law_2 65 rfl
theorem dL_law_582 : decode code 582 = .ok (.aload_n 0, 1) := getB' kL_law_2 66 rfl
theorem dL_law_583 : decode code 583 = .ok (.iload_n 3, 1) := getB' kL_law_2 67 rfl
theorem dL_law_584 : decode code 584 = .ok (.iconst 3, 1) := getB' kL_law_2 68 rfl
theorem dL_law_585 : decode code 585 = .ok (.iadd, 1) := getB' kL_law_2 69 rfl
theorem dL_law_586 : decode code 586 = .ok (.iaload, 1) := getB' kL_law_2 70 rfl
theorem dL_law_587 : decode code 587 = .ok (.aload_n 0, 1) := getB' kL_law_2 71 rfl
theorem dL_law_588 : decode code 588 = .ok (.iload_n 3, 1) := getB' kL_law_2 72 rfl
theorem dL_law_589 : decode code 589 = .ok (.iconst 4, 1) := getB' kL_law_2 73 rfl
theorem dL_law_590 : decode code 590 = .ok (.iadd, 1) := getB' kL_law_2 74 rfl
theorem dL_law_591 : decode code 591 = .ok (.iaload, 1) := getB' kL_law_2 75 rfl
theorem dL_law_592 : decode code 592 = .ok (.invokevirtual 44, 3) := getB' kL_law_2 76 rfl
theorem dL_law_595 : decode code 595 = .ok (.pop, 1) := getB' kL_law_2 77 rfl
theorem dL_law_596 : decode code 596 = .ok (.goto 2149, 3) := getB' kL_law_2 78 rfl
theorem dL_law_599 : decode code 599 = .ok (.aload_n 1, 1) := getB' kL_law_2 79 rfl
theorem dL_law_600 : decode code 600 = .ok (.aload_n 0, 1) := getB' kL_law_2 80 rfl
theorem dL_law_601 : decode code 601 = .ok (.iload_n 3, 1) := getB' kL_law_2 81 rfl
theorem dL_law_602 : decode code 602 = .ok (.iconst 1, 1) := getB' kL_law_2 82 rfl
theorem dL_law_603 : decode code 603 = .ok (.iadd, 1) := getB' kL_law_2 83 rfl
theorem dL_law_604 : decode code 604 = .ok (.iaload, 1) := getB' kL_law_2 84 rfl
theorem dL_law_605 : decode code 605 = .ok (.aload_n 0, 1) := getB' kL_law_2 85 rfl
theorem dL_law_606 : decode code 606 = .ok (.iload_n 3, 1) := getB' kL_law_2 86 rfl
theorem dL_law_607 : decode code 607 = .ok (.iconst 2, 1) := getB' kL_law_2 87 rfl
theorem dL_law_608 : decode code 608 = .ok (.iadd, 1) := getB' kL_law_2 88 rfl
theorem dL_law_609 : decode code 609 = .ok (.iaload, 1) := getB' kL_law_2 89 rfl
theorem dL_law_610 : decode code 610 = .ok (.invokevirtual 45, 3) := getB' kL_law_2 90 rfl
theorem dL_law_613 : decode code 613 = .ok (.pop, 1) := getB' kL_law_2 91 rfl
theorem dL_law_614 : decode code 614 = .ok (.aload_n 2, 1) := getB' kL_law_2 92 rfl
theorem dL_law_615 : decode code 615 = .ok (.aload_n 0, 1) := getB' kL_law_2 93 rfl
theorem dL_law_616 : decode code 616 = .ok (.iload_n 3, 1) := getB' kL_law_2 94 rfl
theorem dL_law_617 : decode code 617 = .ok (.iconst 1, 1) := getB' kL_law_2 95 rfl
theorem dL_law_618 : decode code 618 = .ok (.iadd, 1) := getB' kL_law_2 96 rfl
theorem dL_law_619 : decode code 619 = .ok (.iaload, 1) := getB' kL_law_2 97 rfl
theorem dL_law_620 : decode code 620 = .ok (.aload_n 0, 1) := getB' kL_law_2 98 rfl
theorem dL_law_621 : decode code 621 = .ok (.iload_n 3, 1) := getB' kL_law_2 99 rfl
