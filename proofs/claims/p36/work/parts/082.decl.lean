def LL_law_0 : List (Nat × Instr × Nat) := [(0, .new 7, 3), (3, .dup, 1), (4, .invokespecial 9, 3), (7, .astore_n 1, 1), (8, .new 10, 3), (11, .dup, 1), (12, .invokespecial 12, 3), (15, .astore_n 2, 1), (16, .iconst 0, 1), (17, .istore_n 3, 1), (18, .iload_n 3, 1), (19, .aload_n 0, 1), (20, .arraylength, 1), (21, .bipush 8, 2), (23, .isub, 1), (24, .if_icmp .gt 2727, 3), (27, .aload_n 0, 1), (28, .iload_n 3, 1), (29, .iaload, 1), (30, .bipush 63, 2), (32, .iand, 1), (33, .tableswitch 2712 0 60 #[259, 292, 355, 388, 427, 480, 513, 566, 599, 642, 691, 754, 797, 830, 883, 926, 969, 1002, 1089, 1122, 1155, 1214, 1273, 1342, 1375, 1418, 1461, 1494, 1547, 1590, 1623, 1656, 1699, 1732, 1765, 1778, 1821, 1844, 1877, 1910, 1953, 2016, 2049, 2112, 2125, 2148, 2171, 2214, 2237, 2250, 2283, 2336, 2379, 2432, 2501, 2544, 2567, 2600, 2633, 2666, 2689], 259), (292, .aload_n 1, 1), (293, .aload_n 0, 1), (294, .iload_n 3, 1), (295, .iconst 1, 1), (296, .iadd, 1), (297, .iaload, 1), (298, .aload_n 0, 1), (299, .iload_n 3, 1), (300, .iconst 2, 1), (301, .iadd, 1), (302, .iaload, 1), (303, .invokevirtual 13, 3), (306, .pop, 1), (307, .aload_n 2, 1), (308, .aload_n 0, 1), (309, .iload_n 3, 1), (310, .iconst 1, 1), (311, .iadd, 1), (312, .iaload, 1), (313, .aload_n 0, 1), (314, .iload_n 3, 1), (315, .iconst 2, 1), (316, .iadd, 1), (317, .iaload, 1), (318, .invokevirtual 17, 3), (321, .pop, 1), (322, .goto 2423, 3), (325, .aload_n 1, 1), (326, .aload_n 0, 1), (327, .iload_n 3, 1), (328, .iconst 1, 1), (329, .iadd, 1), (330, .iaload, 1), (331, .aload_n 0, 1), (332, .iload_n 3, 1), (333, .iconst 2, 1), (334, .iadd, 1), (335, .iaload, 1), (336, .aload_n 0, 1), (337, .iload_n 3, 1), (338, .iconst 3, 1), (339, .iadd, 1), (340, .iaload, 1), (341, .aload_n 0, 1), (342, .iload_n 3, 1), (343, .iconst 4, 1), (344, .iadd, 1), (345, .iaload, 1), (346, .aload_n 0, 1), (347, .iload_n 3, 1), (348, .iconst 5, 1), (349, .iadd, 1), (350, .iaload, 1), (351, .invokevirtual 18, 3), (354, .pop, 1), (355, .aload_n 2, 1), (356, .aload_n 0, 1), (357, .iload_n 3, 1), (358, .iconst 1, 1), (359, .iadd, 1), (360, .iaload, 1), (361, .aload_n 0, 1), (362, .iload_n 3, 1), (363, .iconst 2, 1), (364, .iadd, 1), (365, .iaload, 1), (366, .aload_n 0, 1), (367, .iload_n 3, 1), (368, .iconst 3, 1), (369, .iadd, 1), (370, .iaload, 1), (371, .aload_n 0, 1), (372, .iload_n 3, 1), (373, .iconst 4, 1), (374, .iadd, 1), (375, .iaload, 1), (376, .aload_n 0, 1), (377, .iload_n 3, 1)]
theorem kL_law_0 : chkB code LL_law_0 = true := by decide +kernel
theorem dL_law_0 : decode code 0 = .ok (.new 7, 3) := getB' kL_law_0 0 rfl
theorem dL_law_3 : decode code 3 = .ok (.dup, 1) := getB' kL_law_0 1 rfl
theorem dL_law_4 : decode code 4 = .ok (.invokespecial 9, 3) := getB' kL_law_0 2 rfl
theorem dL_law_7 : decode code 7 = .ok (.astore_n 1, 1) := getB' kL_law_0 3 rfl
theorem dL_law_8 : decode code 8 = .ok (.new 10, 3) := getB' kL_law_0 4 rfl
theorem dL_law_11 : decode code 11 = .ok (.dup, 1) := getB' kL_law_0 5 rfl
theorem dL_law_12 : decode code 12 = .ok (.invokespecial 12, 3) := getB' kL_law_0 6 rfl
theorem dL_law_15 : decode code 15 = .ok (.astore_n 2, 1) := getB' kL_law_0 7 rfl
theorem dL_law_16 : decode code 16 = .ok (.iconst 0, 1) := getB' kL_law_0 8 rfl
theorem dL_law_17 : decode code 17 = .ok (.istore_n 3, 1) := getB' kL_law_0 9 rfl
theorem dL_law_18 : decode code 18 = .ok (.iload_n 3, 1) := getB' kL_law_0 10 rfl
theorem dL_law_19 : decode code 19 = .ok (.aload_n 0, 1) := getB' kL_law_0 11 rfl
theorem dL_law_20 : decode code 20 = .ok (.arraylength, 1) := getB' kL_law_0 12 rfl
theorem dL_law_21 : decode code 21 = .ok (.bipush 8, 2) := getB' kL_law_0 13 rfl
theorem dL_law_23 : decode code 23 = .ok (.isub, 1) := getB' kL_law_0 14 rfl
theorem dL_law_24 : decode code 24 = .ok (.if_icmp .gt 2727, 3) := getB' kL_law_0 15 rfl
theorem dL_law_27 : decode code 27 = .ok (.aload_n 0, 1) := getB' kL_law_0 16 rfl
theorem dL_law_28 : decode code 28 = .ok (.iload_n 3, 1) := getB' kL_law_0 17 rfl
theorem dL_law_29 : decode code 29 = .ok (.iaload, 1) := getB' kL_law_0 18 rfl
theorem dL_law_30 : decode code 30 = .ok (.bipush 63, 2) := getB' kL_law_0 19 rfl
theorem dL_law_32 : decode code 32 = .ok (.iand, 1) := getB' kL_law_0 20 rfl
theorem dL_law_33 : decode code 33 = .ok (.tableswitch 2712 0 60 #[259, 292, 355, 388, 427, 480, 513, 566, 599, 642, 691, 754, 797, 830, 883, 926, 969, 1002, 1089, 1122, 1155, 1214, 1273, 1342, 1375, 1418, 1461, 1494, 1547, 1590, 1623, 1656, 1699, 1732, 1765, 1778, 1821, 1844, 1877, 1910, 1953, 2016, 2049, 2112, 2125, 2148, 2171, 2214, 2237, 2250, 2283, 2336, 2379, 2432, 2501, 2544, 2567, 2600, 2633, 2666, 2689], 259) := getB' kL_law_0 21 rfl
theorem dL_law_292 : decode code 292 = .ok (.aload_n 1, 1) := getB' kL_law_0 22 rfl
theorem dL_law_293 : decode code 293 = .ok (.aload_n 0, 1) := getB' kL_law_0 23 rfl
theorem dL_law_294 : decode code 294 = .ok (.iload_n 3, 1) := getB' kL_law_0 24 rfl
theorem dL_law_295 : decode code 295 = .ok (.iconst 1, 1) := getB' kL_law_0 25 rfl
theorem dL_law_296 : decode code 296 = .ok (.iadd, 1) := getB' kL_law_0 26 rfl
theorem dL_law_297 : decode code 297 = .ok (.iaload, 1) := getB' kL_law_0 27 rfl
theorem dL_law_298 : decode code 298 = .ok (.aload_n 0, 1) := getB' kL_law_0 28 rfl
theorem dL_law_299 : decode code 299 = .ok (.iload_n 3, 1) := getB' kL_law_0 29 rfl
theorem dL_law_300 : decode code 300 = .ok (.iconst 2, 1) := getB' kL_law_0 30 rfl
theorem dL_law_301 : decode code 301 = .ok (.iadd, 1) := getB' kL_law_0 31 rfl
theorem dL_law_302 : decode code 302 = .ok (.iaload, 1) := getB' kL_law_0 32 rfl
theorem dL_law_303 : decode code 303 = .ok (.invokevirtual 13, 3) := getB' kL_law_0 33 rfl
theorem dL_law_306 : decode code 306 = .ok (.pop, 1) := getB' kL_law_0 34 rfl
theorem dL_law_307 : decode code 307 = .ok (.aload_n 2, 1) := getB' kL_law_0 35 rfl
theorem dL_law_308 : decode code 308 = .ok (.aload_n 0, 1) := getB' kL_law_0 36 rfl
theorem dL_law_309 : decode code 309 = .ok (.iload_n 3, 1) := getB' kL_law_0 37 rfl
theorem dL_law_310 : decode code 310 = .ok (.iconst 1, 1) := getB' kL_law_0 38 rfl
theorem dL_law_311 : decode code 311 = .ok (.iadd, 1) := getB' kL_law_0 39 rfl
theorem dL_law_312 : decode code 312 = .ok (.iaload, 1) := getB' kL_law_0 40 rfl
theorem dL_law_313 : decode code 313 = .ok (.aload_n 0, 1) := getB' kL_law_0 41 rfl
theorem dL_law_314 : decode code 314 = .ok (.iload_n 3, 1) := getB' kL_law_0 42 rfl
theorem dL_law_315 : decode code 315 = .ok (.iconst 2, 1) := getB' kL_law_0 43 rfl
theorem dL_law_316 : decode code 316 = .ok (.iadd, 1) := getB' kL_law_0 44 rfl
theorem dL_law_317 : decode code 317 = .ok (.iaload, 1) := getB' kL_law_0 45 rfl
theorem dL_law_318 : decode code 318 = .ok (.invokevirtual 17, 3) := getB' kL_law_0 46 rfl
theorem dL_law_321 : decode code 321 = .ok (.pop, 1) := getB' kL_law_0 47 rfl
theorem dL_law_322 : decode code 322 = .ok (.goto 2423, 3) := getB' kL_law_0 48 rfl
theorem dL_law_325 : decode code 325 = .ok (.aload_n 1, 1) := getB' kL_law_0 49 rfl
theorem dL_law_326 : decode code 326 = .ok (.aload_n 0, 1) := getB' kL_law_0 50 rfl
theorem dL_law_327 : decode code 327 = .ok (.iload_n 3, 1) := getB' kL_law_0 51 rfl
theorem dL_law_328 : decode code 328 = .ok (.iconst 1, 1) := getB' kL_law_0 52 rfl
theorem dL_law_329 : decode code 329 = .ok (.iadd, 1) := getB' kL_law_0 53 rfl
theorem dL_law_330 : decode code 330 = .ok (.iaload, 1) := getB' kL_law_0 54 rfl
theorem dL_law_331 : decode code 331 = .ok (.aload_n 0, 1) := getB' kL_law_0 55 rfl
theorem dL_law_332 : decode code 332 = .ok (.iload_n 3, 1) := getB' kL_law_0 56 rfl
theorem dL_law_333 : decode code 333 = .ok (.iconst 2, 1) := getB' kL_law_0 57 rfl
theorem dL_law_334 : decode code 334 = .ok (.iadd, 1) := getB' kL_law_0 58 rfl
theorem dL_law_335 : decode code 335 = .ok (.iaload, 1) := getB' kL_law_0 59 rfl
theorem dL_law_336 : decode code 336 = .ok (.aload_n 0, 1) := getB' kL_law_0 60 rfl
theorem dL_law_337 : decode code 337 = .ok (.iload_n 3, 1) := getB' kL_law_0 61 rfl
theorem dL_law_338 : decode code 338 = .ok (.iconst 3, 1) := getB' kL_law_0 62 rfl
theorem dL_law_339 : decode code 339 = .ok (.iadd, 1) := getB' kL_law_0 63 rfl
theorem dL_law_340 : decode code 340 = .ok (.iaload, 1) := getB' kL_law_0 64 rfl
theorem dL_law_341 : decode code 341 = .ok (.aload_n 0, 1) := getB' kL_law_0 65 rfl
theorem dL_law_342 : decode code 342 = .ok (.iload_n 3, 1) := getB' kL_law_0 66 rfl
theorem dL_law_343 : decode code 343 = .ok (.iconst 4, 1) := getB' kL_law_0 67 rfl
theorem dL_law_344 : decode code 344 = .ok (.iadd, 1) := getB' kL_law_0 68 rfl
theorem dL_law_345 : decode code 345 = .ok (.iaload, 1) := getB' kL_law_0 69 rfl
theorem dL_law_346 : decode code 346 = .ok (.aload_n 0, 1) := getB' kL_law_0 70 rfl
theorem dL_law_347 : decode code 347 = .ok (.iload_n 3, 1) := getB' kL_law_0 71 rfl
theorem dL_law_348 : decode code 348 = .ok (.iconst 5, 1) := getB' kL_law_0 72 rfl
theorem dL_law_349 : decode code 349 = .ok (.iadd, 1) := getB' kL_law_0 73 rfl
theorem dL_law_350 : decode code 350 = .ok (.iaload, 1) := getB' kL_law_0 74 rfl
theorem dL_law_351 : decode code 351 = .ok (.invokevirtual 18, 3) := getB' kL_law_0 75 rfl
theorem dL_law_354 : decode code 354 = .ok (.pop, 1) := getB' kL_law_0 76 rfl
theorem dL_law_355 : decode code 355 = .ok (.aload_n 2, 1) := getB' kL_law_0 77 rfl
theorem dL_law_356 : decode code 356 = .ok (.aload_n 0, 1) := getB' kL_law_0 78 rfl
theorem dL_law_357 : decode code 357 = .ok (.iload_n 3, 1) := getB' kL_law_0 79 rfl
theorem dL_law_358 : decode code 358 = .ok (.iconst 1, 1) := getB' kL_law_0 80 rfl
theorem dL_law_359 : decode code 359 = .ok (.iadd, 1) := getB' kL_law_0 81 rfl
theorem dL_law_360 : decode code 360 = .ok (.iaload, 1) := getB' kL_law_0 82 rfl
theorem dL_law_361 : decode code 361 = .ok (.aload_n 0, 1) := getB' kL_law_0 83 rfl
theorem dL_law_362 : decode code 362 = .ok (.iload_n 3, 1) := getB' kL_law_0 84 rfl
theorem dL_law_363 : decode code 363 = .ok (.iconst 2, 1) := getB' kL_law_0 85 rfl
theorem dL_law_364 : decode code 364 = .ok (.iadd, 1) := getB' kL_law_0 86 rfl
theorem dL_law_365 : decode code 365 = .ok (.iaload, 1) := getB' kL_law_0 87 rfl
theorem dL_law_366 : decode code 366 = .ok (.aload_n 0, 1) := getB' kL_law_0 88 rfl
theorem dL_law_367 : decode code 367 = .ok (.iload_n 3, 1) := getB' kL_law_0 89 rfl
theorem dL_law_368 : decode code 368 = .ok (.iconst 3, 1) := getB' kL_law_0 90 rfl
theorem dL_law_369 : decode code 369 = .ok (.iadd, 1) := getB' kL_law_0 91 rfl
theorem dL_law_370 : decode code 370 = .ok (.iaload, 1) := getB' kL_law_0 92 rfl
theorem dL_law_371 : decode code 371 = .ok (.aload_n 0, 1) := getB' kL_law_0 93 rfl
theorem dL_law_372 : decode code 372 = .ok (.iload_n 3, 1) := getB' kL_law_0 94 rfl
theorem dL_law_373 : decode code 373 = .ok (.iconst 4, 1) := getB' kL_law_0 95 rfl
theorem dL_law_374 : decode code 374 = .ok (.iadd, 1) := getB' kL_law_0 96 rfl
theorem dL_law_375 : decode code 375 = .ok (.iaload, 1) := getB' kL_law_0 97 rfl
theorem dL_law_376 : decode code 376 = .ok (.aload_n 0, 1) := getB' kL_law_0 98 rfl
theorem dL_law_377 : decode code 377 = .ok (.iload_n 3, 1) := getB' kL_law_0 99 rfl
