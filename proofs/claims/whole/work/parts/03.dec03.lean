theorem dX9_find_330 : decode cX9_find 330 = .ok (.aload_n 0, 1) := by decide +kernel
theorem dX9_find_331 : decode cX9_find 331 = .ok (.getfield 205, 3) := by decide +kernel
theorem dX9_find_334 : decode cX9_find 334 = .ok (.if_icmp .ge 113, 3) := by decide +kernel
theorem dX9_find_337 : decode cX9_find 337 = .ok (.iconst 1, 1) := by decide +kernel
theorem dX9_find_338 : decode cX9_find 338 = .ok (.istore 6, 2) := by decide +kernel
theorem dX9_find_340 : decode cX9_find 340 = .ok (.iload 6, 2) := by decide +kernel
theorem dX9_find_342 : decode cX9_find 342 = .ok (.aload_n 0, 1) := by decide +kernel
theorem dX9_find_343 : decode cX9_find 343 = .ok (.getfield 20, 3) := by decide +kernel
theorem dX9_find_346 : decode cX9_find 346 = .ok (.iload 5, 2) := by decide +kernel
theorem dX9_find_348 : decode cX9_find 348 = .ok (.iaload, 1) := by decide +kernel
theorem dX9_find_349 : decode cX9_find 349 = .ok (.if_icmp .gt 92, 3) := by decide +kernel
theorem dX9_find_352 : decode cX9_find 352 = .ok (.iload 5, 2) := by decide +kernel
theorem dX9_find_354 : decode cX9_find 354 = .ok (.iload 6, 2) := by decide +kernel
theorem dX9_find_356 : decode cX9_find 356 = .ok (.invokestatic 254, 3) := by decide +kernel
theorem dX9_find_359 : decode cX9_find 359 = .ok (.istore 7, 2) := by decide +kernel
theorem dX9_find_361 : decode cX9_find 361 = .ok (.aload_n 0, 1) := by decide +kernel
theorem dX9_find_362 : decode cX9_find 362 = .ok (.getfield 54, 3) := by decide +kernel
theorem dX9_find_365 : decode cX9_find 365 = .ok (.iload 7, 2) := by decide +kernel
theorem dX9_find_367 : decode cX9_find 367 = .ok (.laload, 1) := by decide +kernel
theorem dX9_find_368 : decode cX9_find 368 = .ok (.ldc2_w 258, 3) := by decide +kernel
theorem dX9_find_371 : decode cX9_find 371 = .ok (.lcmp, 1) := by decide +kernel
theorem dX9_find_372 : decode cX9_find 372 = .ok (.ifCond .ge 63, 3) := by decide +kernel
theorem dX9_find_375 : decode cX9_find 375 = .ok (.iload 4, 2) := by decide +kernel
theorem dX9_find_377 : decode cX9_find 377 = .ok (.iconst (-1), 1) := by decide +kernel
theorem dX9_find_378 : decode cX9_find 378 = .ok (.if_icmp .eq 53, 3) := by decide +kernel
theorem dX9_find_381 : decode cX9_find 381 = .ok (.aload_n 0, 1) := by decide +kernel
theorem dX9_find_382 : decode cX9_find 382 = .ok (.getfield 54, 3) := by decide +kernel
theorem dX9_find_385 : decode cX9_find 385 = .ok (.iload 7, 2) := by decide +kernel
theorem dX9_find_387 : decode cX9_find 387 = .ok (.laload, 1) := by decide +kernel
theorem dX9_find_388 : decode cX9_find 388 = .ok (.aload_n 0, 1) := by decide +kernel
theorem dX9_find_389 : decode cX9_find 389 = .ok (.getfield 54, 3) := by decide +kernel
theorem dX9_find_392 : decode cX9_find 392 = .ok (.iload 4, 2) := by decide +kernel
theorem dX9_find_394 : decode cX9_find 394 = .ok (.laload, 1) := by decide +kernel
theorem dX9_find_395 : decode cX9_find 395 = .ok (.lcmp, 1) := by decide +kernel
theorem dX9_find_396 : decode cX9_find 396 = .ok (.ifCond .lt 35, 3) := by decide +kernel
theorem dX9_find_399 : decode cX9_find 399 = .ok (.aload_n 0, 1) := by decide +kernel
theorem dX9_find_400 : decode cX9_find 400 = .ok (.getfield 54, 3) := by decide +kernel
theorem dX9_find_403 : decode cX9_find 403 = .ok (.iload 7, 2) := by decide +kernel
theorem dX9_find_405 : decode cX9_find 405 = .ok (.laload, 1) := by decide +kernel
theorem dX9_find_406 : decode cX9_find 406 = .ok (.aload_n 0, 1) := by decide +kernel
theorem dX9_find_407 : decode cX9_find 407 = .ok (.getfield 54, 3) := by decide +kernel
theorem dX9_find_410 : decode cX9_find 410 = .ok (.iload 4, 2) := by decide +kernel
theorem dX9_find_412 : decode cX9_find 412 = .ok (.laload, 1) := by decide +kernel
theorem dX9_find_413 : decode cX9_find 413 = .ok (.lcmp, 1) := by decide +kernel
theorem dX9_find_414 : decode cX9_find 414 = .ok (.ifCond .ne 21, 3) := by decide +kernel
theorem dX9_find_417 : decode cX9_find 417 = .ok (.aload_n 0, 1) := by decide +kernel
theorem dX9_find_418 : decode cX9_find 418 = .ok (.iload 7, 2) := by decide +kernel
theorem dX9_find_420 : decode cX9_find 420 = .ok (.iload 4, 2) := by decide +kernel
theorem dX9_find_422 : decode cX9_find 422 = .ok (.iload_n 3, 1) := by decide +kernel
theorem dX9_find_423 : decode cX9_find 423 = .ok (.iload_n 2, 1) := by decide +kernel
theorem dX9_find_424 : decode cX9_find 424 = .ok (.isub, 1) := by decide +kernel
theorem dX9_find_425 : decode cX9_find 425 = .ok (.invokevirtual 270, 3) := by decide +kernel
theorem dX9_find_428 : decode cX9_find 428 = .ok (.ifCond .eq 7, 3) := by decide +kernel
theorem dX9_find_431 : decode cX9_find 431 = .ok (.iload 7, 2) := by decide +kernel
theorem dX9_find_433 : decode cX9_find 433 = .ok (.istore 4, 2) := by decide +kernel
theorem dX9_find_435 : decode cX9_find 435 = .ok (.iinc 6 1, 3) := by decide +kernel
theorem dX9_find_438 : decode cX9_find 438 = .ok (.goto (-98), 3) := by decide +kernel
theorem dX9_find_441 : decode cX9_find 441 = .ok (.iinc 5 1, 3) := by decide +kernel
theorem dX9_find_444 : decode cX9_find 444 = .ok (.goto (-116), 3) := by decide +kernel
theorem dX9_find_447 : decode cX9_find 447 = .ok (.iload 4, 2) := by decide +kernel
theorem dX9_find_449 : decode cX9_find 449 = .ok (.ireturn, 1) := by decide +kernel
theorem dX9_isAhead_0 : decode cX9_isAhead 0 = .ok (.iconst 0, 1) := by decide +kernel
theorem dX9_isAhead_1 : decode cX9_isAhead 1 = .ok (.istore 4, 2) := by decide +kernel
theorem dX9_isAhead_3 : decode cX9_isAhead 3 = .ok (.iload 4, 2) := by decide +kernel
theorem dX9_isAhead_5 : decode cX9_isAhead 5 = .ok (.iload_n 3, 1) := by decide +kernel
theorem dX9_isAhead_6 : decode cX9_isAhead 6 = .ok (.if_icmp .ge 36, 3) := by decide +kernel
theorem dX9_isAhead_9 : decode cX9_isAhead 9 = .ok (.aload_n 0, 1) := by decide +kernel
theorem dX9_isAhead_10 : decode cX9_isAhead 10 = .ok (.getfield 60, 3) := by decide +kernel
theorem dX9_isAhead_13 : decode cX9_isAhead 13 = .ok (.bipush 24, 2) := by decide +kernel
theorem dX9_isAhead_15 : decode cX9_isAhead 15 = .ok (.iload_n 1, 1) := by decide +kernel
theorem dX9_isAhead_16 : decode cX9_isAhead 16 = .ok (.imul, 1) := by decide +kernel
theorem dX9_isAhead_17 : decode cX9_isAhead 17 = .ok (.iload 4, 2) := by decide +kernel
theorem dX9_isAhead_19 : decode cX9_isAhead 19 = .ok (.iadd, 1) := by decide +kernel
theorem dX9_isAhead_20 : decode cX9_isAhead 20 = .ok (.iaload, 1) := by decide +kernel
theorem dX9_isAhead_21 : decode cX9_isAhead 21 = .ok (.aload_n 0, 1) := by decide +kernel
theorem dX9_isAhead_22 : decode cX9_isAhead 22 = .ok (.getfield 60, 3) := by decide +kernel
theorem dX9_isAhead_25 : decode cX9_isAhead 25 = .ok (.bipush 24, 2) := by decide +kernel
theorem dX9_isAhead_27 : decode cX9_isAhead 27 = .ok (.iload_n 2, 1) := by decide +kernel
theorem dX9_isAhead_28 : decode cX9_isAhead 28 = .ok (.imul, 1) := by decide +kernel
theorem dX9_isAhead_29 : decode cX9_isAhead 29 = .ok (.iload 4, 2) := by decide +kernel
theorem dX9_isAhead_31 : decode cX9_isAhead 31 = .ok (.iadd, 1) := by decide +kernel
theorem dX9_isAhead_32 : decode cX9_isAhead 32 = .ok (.iaload, 1) := by decide +kernel
theorem dX9_isAhead_33 : decode cX9_isAhead 33 = .ok (.if_icmp .ne 9, 3) := by decide +kernel
theorem dX9_isAhead_36 : decode cX9_isAhead 36 = .ok (.iinc 4 1, 3) := by decide +kernel
theorem dX9_isAhead_39 : decode cX9_isAhead 39 = .ok (.goto (-36), 3) := by decide +kernel
theorem dX9_isAhead_42 : decode cX9_isAhead 42 = .ok (.iload 4, 2) := by decide +kernel
theorem dX9_isAhead_44 : decode cX9_isAhead 44 = .ok (.iload_n 3, 1) := by decide +kernel
theorem dX9_isAhead_45 : decode cX9_isAhead 45 = .ok (.if_icmp .ge 34, 3) := by decide +kernel
theorem dX9_isAhead_48 : decode cX9_isAhead 48 = .ok (.aload_n 0, 1) := by decide +kernel
theorem dX9_isAhead_49 : decode cX9_isAhead 49 = .ok (.getfield 60, 3) := by decide +kernel
theorem dX9_isAhead_52 : decode cX9_isAhead 52 = .ok (.bipush 24, 2) := by decide +kernel
theorem dX9_isAhead_54 : decode cX9_isAhead 54 = .ok (.iload_n 1, 1) := by decide +kernel
theorem dX9_isAhead_55 : decode cX9_isAhead 55 = .ok (.imul, 1) := by decide +kernel
theorem dX9_isAhead_56 : decode cX9_isAhead 56 = .ok (.iload 4, 2) := by decide +kernel
theorem dX9_isAhead_58 : decode cX9_isAhead 58 = .ok (.iadd, 1) := by decide +kernel
theorem dX9_isAhead_59 : decode cX9_isAhead 59 = .ok (.iaload, 1) := by decide +kernel
theorem dX9_isAhead_60 : decode cX9_isAhead 60 = .ok (.aload_n 0, 1) := by decide +kernel
theorem dX9_isAhead_61 : decode cX9_isAhead 61 = .ok (.getfield 60, 3) := by decide +kernel
theorem dX9_isAhead_64 : decode cX9_isAhead 64 = .ok (.bipush 24, 2) := by decide +kernel
theorem dX9_isAhead_66 : decode cX9_isAhead 66 = .ok (.iload_n 2, 1) := by decide +kernel
theorem dX9_isAhead_67 : decode cX9_isAhead 67 = .ok (.imul, 1) := by decide +kernel
theorem dX9_isAhead_68 : decode cX9_isAhead 68 = .ok (.iload 4, 2) := by decide +kernel
theorem dX9_isAhead_70 : decode cX9_isAhead 70 = .ok (.iadd, 1) := by decide +kernel
theorem dX9_isAhead_71 : decode cX9_isAhead 71 = .ok (.iaload, 1) := by decide +kernel
theorem dX9_isAhead_72 : decode cX9_isAhead 72 = .ok (.if_icmp .ge 7, 3) := by decide +kernel
theorem dX9_isAhead_75 : decode cX9_isAhead 75 = .ok (.iconst 1, 1) := by decide +kernel
theorem dX9_isAhead_76 : decode cX9_isAhead 76 = .ok (.goto 4, 3) := by decide +kernel
theorem dX9_isAhead_79 : decode cX9_isAhead 79 = .ok (.iconst 0, 1) := by decide +kernel
theorem dX9_isAhead_80 : decode cX9_isAhead 80 = .ok (.ireturn, 1) := by decide +kernel
theorem dX9_best_0 : decode cX9_best 0 = .ok (.aload_n 0, 1) := by decide +kernel
theorem dX9_best_1 : decode cX9_best 1 = .ok (.iconst 0, 1) := by decide +kernel
theorem dX9_best_2 : decode cX9_best 2 = .ok (.putfield 87, 3) := by decide +kernel
theorem dX9_best_5 : decode cX9_best 5 = .ok (.iload_n 1, 1) := by decide +kernel
theorem dX9_best_6 : decode cX9_best 6 = .ok (.iconst 1, 1) := by decide +kernel
theorem dX9_best_7 : decode cX9_best 7 = .ok (.if_icmp .lt 24, 3) := by decide +kernel
theorem dX9_best_10 : decode cX9_best 10 = .ok (.iload_n 1, 1) := by decide +kernel
theorem dX9_best_11 : decode cX9_best 11 = .ok (.bipush 15, 2) := by decide +kernel
theorem dX9_best_13 : decode cX9_best 13 = .ok (.if_icmp .gt 18, 3) := by decide +kernel
theorem dX9_best_16 : decode cX9_best 16 = .ok (.iload_n 2, 1) := by decide +kernel
theorem dX9_best_17 : decode cX9_best 17 = .ok (.ifCond .lt 14, 3) := by decide +kernel
theorem dX9_best_20 : decode cX9_best 20 = .ok (.iload_n 2, 1) := by decide +kernel
theorem dX9_best_21 : decode cX9_best 21 = .ok (.iload_n 3, 1) := by decide +kernel
theorem dX9_best_22 : decode cX9_best 22 = .ok (.if_icmp .ge 9, 3) := by decide +kernel
theorem dX9_best_25 : decode cX9_best 25 = .ok (.iload_n 3, 1) := by decide +kernel
theorem dX9_best_26 : decode cX9_best 26 = .ok (.bipush 24, 2) := by decide +kernel
theorem dX9_best_28 : decode cX9_best 28 = .ok (.if_icmp .le 7, 3) := by decide +kernel
theorem dX9_best_31 : decode cX9_best 31 = .ok (.ldc2_w 273, 3) := by decide +kernel
theorem dX9_best_34 : decode cX9_best 34 = .ok (.lreturn, 1) := by decide +kernel
theorem dX9_best_35 : decode cX9_best 35 = .ok (.aload_n 0, 1) := by decide +kernel
theorem dX9_best_36 : decode cX9_best 36 = .ok (.iload_n 1, 1) := by decide +kernel
theorem dX9_best_37 : decode cX9_best 37 = .ok (.iload_n 2, 1) := by decide +kernel
theorem dX9_best_38 : decode cX9_best 38 = .ok (.iload_n 3, 1) := by decide +kernel
theorem dX9_best_39 : decode cX9_best 39 = .ok (.invokevirtual 275, 3) := by decide +kernel
theorem dX9_best_42 : decode cX9_best 42 = .ok (.istore 4, 2) := by decide +kernel
theorem dX9_best_44 : decode cX9_best 44 = .ok (.iload 4, 2) := by decide +kernel
theorem dX9_best_46 : decode cX9_best 46 = .ok (.iconst (-1), 1) := by decide +kernel
theorem dX9_best_47 : decode cX9_best 47 = .ok (.if_icmp .ne 7, 3) := by decide +kernel
theorem dX9_best_50 : decode cX9_best 50 = .ok (.ldc2_w 273, 3) := by decide +kernel
theorem dX9_best_53 : decode cX9_best 53 = .ok (.lreturn, 1) := by decide +kernel
theorem dX9_best_54 : decode cX9_best 54 = .ok (.aload_n 0, 1) := by decide +kernel
theorem dX9_best_55 : decode cX9_best 55 = .ok (.iload_n 2, 1) := by decide +kernel
theorem dX9_best_56 : decode cX9_best 56 = .ok (.putfield 208, 3) := by decide +kernel
theorem dX9_best_59 : decode cX9_best 59 = .ok (.aload_n 0, 1) := by decide +kernel
theorem dX9_best_60 : decode cX9_best 60 = .ok (.iload_n 3, 1) := by decide +kernel
theorem dX9_best_61 : decode cX9_best 61 = .ok (.putfield 211, 3) := by decide +kernel
theorem dX9_best_64 : decode cX9_best 64 = .ok (.iconst 0, 1) := by decide +kernel
theorem dX9_best_65 : decode cX9_best 65 = .ok (.istore 5, 2) := by decide +kernel
theorem dX9_best_67 : decode cX9_best 67 = .ok (.iload 5, 2) := by decide +kernel
theorem dX9_best_69 : decode cX9_best 69 = .ok (.iload_n 3, 1) := by decide +kernel
theorem dX9_best_70 : decode cX9_best 70 = .ok (.iload_n 2, 1) := by decide +kernel
theorem dX9_best_71 : decode cX9_best 71 = .ok (.isub, 1) := by decide +kernel
theorem dX9_best_72 : decode cX9_best 72 = .ok (.if_icmp .ge 29, 3) := by decide +kernel
theorem dX9_best_75 : decode cX9_best 75 = .ok (.aload_n 0, 1) := by decide +kernel
theorem dX9_best_76 : decode cX9_best 76 = .ok (.getfield 66, 3) := by decide +kernel
theorem dX9_best_79 : decode cX9_best 79 = .ok (.iload 5, 2) := by decide +kernel
theorem dX9_best_81 : decode cX9_best 81 = .ok (.aload_n 0, 1) := by decide +kernel
theorem dX9_best_82 : decode cX9_best 82 = .ok (.getfield 60, 3) := by decide +kernel
theorem dX9_best_85 : decode cX9_best 85 = .ok (.bipush 24, 2) := by decide +kernel
theorem dX9_best_87 : decode cX9_best 87 = .ok (.iload 4, 2) := by decide +kernel
theorem dX9_best_89 : decode cX9_best 89 = .ok (.imul, 1) := by decide +kernel
theorem dX9_best_90 : decode cX9_best 90 = .ok (.iload 5, 2) := by decide +kernel
theorem dX9_best_92 : decode cX9_best 92 = .ok (.iadd, 1) := by decide +kernel
theorem dX9_best_93 : decode cX9_best 93 = .ok (.iaload, 1) := by decide +kernel
theorem dX9_best_94 : decode cX9_best 94 = .ok (.iastore, 1) := by decide +kernel
theorem dX9_best_95 : decode cX9_best 95 = .ok (.iinc 5 1, 3) := by decide +kernel
theorem dX9_best_98 : decode cX9_best 98 = .ok (.goto (-31), 3) := by decide +kernel
theorem dX9_best_101 : decode cX9_best 101 = .ok (.aload_n 0, 1) := by decide +kernel
theorem dX9_best_102 : decode cX9_best 102 = .ok (.getfield 54, 3) := by decide +kernel
theorem dX9_best_105 : decode cX9_best 105 = .ok (.iload 4, 2) := by decide +kernel
theorem dX9_best_107 : decode cX9_best 107 = .ok (.laload, 1) := by decide +kernel
theorem dX9_best_108 : decode cX9_best 108 = .ok (.lreturn, 1) := by decide +kernel
theorem dX9_had_0 : decode cX9_had 0 = .ok (.aload_n 0, 1) := by decide +kernel
theorem dX9_had_1 : decode cX9_had 1 = .ok (.iconst 0, 1) := by decide +kernel
theorem dX9_had_2 : decode cX9_had 2 = .ok (.putfield 87, 3) := by decide +kernel
theorem dX9_had_5 : decode cX9_had 5 = .ok (.iload_n 1, 1) := by decide +kernel
theorem dX9_had_6 : decode cX9_had 6 = .ok (.aload_n 0, 1) := by decide +kernel
theorem dX9_had_7 : decode cX9_had 7 = .ok (.getfield 208, 3) := by decide +kernel
theorem dX9_had_10 : decode cX9_had 10 = .ok (.if_icmp .lt 11, 3) := by decide +kernel
theorem dX9_had_13 : decode cX9_had 13 = .ok (.iload_n 1, 1) := by decide +kernel
theorem dX9_had_14 : decode cX9_had 14 = .ok (.aload_n 0, 1) := by decide +kernel
theorem dX9_had_15 : decode cX9_had 15 = .ok (.getfield 211, 3) := by decide +kernel
theorem dX9_had_18 : decode cX9_had 18 = .ok (.if_icmp .lt 7, 3) := by decide +kernel
theorem dX9_had_21 : decode cX9_had 21 = .ok (.iconst (-1), 1) := by decide +kernel
theorem dX9_had_22 : decode cX9_had 22 = .ok (.goto 14, 3) := by decide +kernel
theorem dX9_had_25 : decode cX9_had 25 = .ok (.aload_n 0, 1) := by decide +kernel
theorem dX9_had_26 : decode cX9_had 26 = .ok (.getfield 66, 3) := by decide +kernel
theorem dX9_had_29 : decode cX9_had 29 = .ok (.iload_n 1, 1) := by decide +kernel
theorem dX9_had_30 : decode cX9_had 30 = .ok (.aload_n 0, 1) := by decide +kernel
theorem dX9_had_31 : decode cX9_had 31 = .ok (.getfield 208, 3) := by decide +kernel
theorem dX9_had_34 : decode cX9_had 34 = .ok (.isub, 1) := by decide +kernel
theorem dX9_had_35 : decode cX9_had 35 = .ok (.iaload, 1) := by decide +kernel
theorem dX9_had_36 : decode cX9_had 36 = .ok (.ireturn, 1) := by decide +kernel
theorem dX9_bills_0 : decode cX9_bills 0 = .ok (.aload_n 0, 1) := by decide +kernel
theorem dX9_bills_1 : decode cX9_bills 1 = .ok (.iconst 0, 1) := by decide +kernel
theorem dX9_bills_2 : decode cX9_bills 2 = .ok (.putfield 87, 3) := by decide +kernel
theorem dX9_bills_5 : decode cX9_bills 5 = .ok (.iconst 1, 1) := by decide +kernel
theorem dX9_bills_6 : decode cX9_bills 6 = .ok (.istore_n 1, 1) := by decide +kernel
theorem dX9_bills_7 : decode cX9_bills 7 = .ok (.iload_n 1, 1) := by decide +kernel
theorem dX9_bills_8 : decode cX9_bills 8 = .ok (.bipush 16, 2) := by decide +kernel
theorem dX9_bills_10 : decode cX9_bills 10 = .ok (.if_icmp .ge 41, 3) := by decide +kernel
theorem dX9_bills_13 : decode cX9_bills 13 = .ok (.aload_n 0, 1) := by decide +kernel
theorem dX9_bills_14 : decode cX9_bills 14 = .ok (.iload_n 1, 1) := by decide +kernel
theorem dX9_bills_15 : decode cX9_bills 15 = .ok (.iconst 0, 1) := by decide +kernel
theorem dX9_bills_16 : decode cX9_bills 16 = .ok (.bipush 24, 2) := by decide +kernel
theorem dX9_bills_18 : decode cX9_bills 18 = .ok (.invokevirtual 275, 3) := by decide +kernel
theorem dX9_bills_21 : decode cX9_bills 21 = .ok (.istore_n 2, 1) := by decide +kernel
theorem dX9_bills_22 : decode cX9_bills 22 = .ok (.aload_n 0, 1) := by decide +kernel
theorem dX9_bills_23 : decode cX9_bills 23 = .ok (.getfield 69, 3) := by decide +kernel
theorem dX9_bills_26 : decode cX9_bills 26 = .ok (.iload_n 1, 1) := by decide +kernel
theorem dX9_bills_27 : decode cX9_bills 27 = .ok (.iload_n 2, 1) := by decide +kernel
theorem dX9_bills_28 : decode cX9_bills 28 = .ok (.iconst (-1), 1) := by decide +kernel
theorem dX9_bills_29 : decode cX9_bills 29 = .ok (.if_icmp .ne 9, 3) := by decide +kernel
theorem dX9_bills_32 : decode cX9_bills 32 = .ok (.ldc2_w 258, 3) := by decide +kernel
theorem dX9_bills_35 : decode cX9_bills 35 = .ok (.goto 9, 3) := by decide +kernel
theorem dX9_bills_38 : decode cX9_bills 38 = .ok (.aload_n 0, 1) := by decide +kernel
theorem dX9_bills_39 : decode cX9_bills 39 = .ok (.getfield 54, 3) := by decide +kernel
theorem dX9_bills_42 : decode cX9_bills 42 = .ok (.iload_n 2, 1) := by decide +kernel
theorem dX9_bills_43 : decode cX9_bills 43 = .ok (.laload, 1) := by decide +kernel
theorem dX9_bills_44 : decode cX9_bills 44 = .ok (.lastore, 1) := by decide +kernel
theorem dX9_bills_45 : decode cX9_bills 45 = .ok (.iinc 1 1, 3) := by decide +kernel
theorem dX9_bills_48 : decode cX9_bills 48 = .ok (.goto (-41), 3) := by decide +kernel
theorem dX9_bills_51 : decode cX9_bills 51 = .ok (.aload_n 0, 1) := by decide +kernel
theorem dX9_bills_52 : decode cX9_bills 52 = .ok (.getfield 72, 3) := by decide +kernel
theorem dX9_bills_55 : decode cX9_bills 55 = .ok (.iconst 0, 1) := by decide +kernel
theorem dX9_bills_56 : decode cX9_bills 56 = .ok (.lconst 0, 1) := by decide +kernel
theorem dX9_bills_57 : decode cX9_bills 57 = .ok (.lastore, 1) := by decide +kernel
theorem dX9_bills_58 : decode cX9_bills 58 = .ok (.iconst 1, 1) := by decide +kernel
theorem dX9_bills_59 : decode cX9_bills 59 = .ok (.istore_n 1, 1) := by decide +kernel
theorem dX9_bills_60 : decode cX9_bills 60 = .ok (.iload_n 1, 1) := by decide +kernel
theorem dX9_bills_61 : decode cX9_bills 61 = .ok (.bipush 16, 2) := by decide +kernel
theorem dX9_bills_63 : decode cX9_bills 63 = .ok (.if_icmp .ge 127, 3) := by decide +kernel
theorem dX9_bills_66 : decode cX9_bills 66 = .ok (.aload_n 0, 1) := by decide +kernel
theorem dX9_bills_67 : decode cX9_bills 67 = .ok (.getfield 72, 3) := by decide +kernel
theorem dX9_bills_70 : decode cX9_bills 70 = .ok (.iload_n 1, 1) := by decide +kernel
theorem dX9_bills_71 : decode cX9_bills 71 = .ok (.ldc2_w 258, 3) := by decide +kernel
theorem dX9_bills_74 : decode cX9_bills 74 = .ok (.lastore, 1) := by decide +kernel
theorem dX9_bills_75 : decode cX9_bills 75 = .ok (.iconst 1, 1) := by decide +kernel
theorem dX9_bills_76 : decode cX9_bills 76 = .ok (.istore_n 2, 1) := by decide +kernel
theorem dX9_bills_77 : decode cX9_bills 77 = .ok (.iload_n 2, 1) := by decide +kernel
theorem dX9_bills_78 : decode cX9_bills 78 = .ok (.iload_n 1, 1) := by decide +kernel
theorem dX9_bills_79 : decode cX9_bills 79 = .ok (.if_icmp .gt 105, 3) := by decide +kernel
theorem dX9_bills_82 : decode cX9_bills 82 = .ok (.iload_n 2, 1) := by decide +kernel
theorem dX9_bills_83 : decode cX9_bills 83 = .ok (.iload_n 1, 1) := by decide +kernel
theorem dX9_bills_84 : decode cX9_bills 84 = .ok (.iconst (-1), 1) := by decide +kernel
theorem dX9_bills_85 : decode cX9_bills 85 = .ok (.ixor, 1) := by decide +kernel
theorem dX9_bills_86 : decode cX9_bills 86 = .ok (.iand, 1) := by decide +kernel
theorem dX9_bills_87 : decode cX9_bills 87 = .ok (.ifCond .ne 91, 3) := by decide +kernel
theorem dX9_bills_90 : decode cX9_bills 90 = .ok (.iload_n 2, 1) := by decide +kernel
theorem dX9_bills_91 : decode cX9_bills 91 = .ok (.iload_n 1, 1) := by decide +kernel
theorem dX9_bills_92 : decode cX9_bills 92 = .ok (.iand, 1) := by decide +kernel
theorem dX9_bills_93 : decode cX9_bills 93 = .ok (.iload_n 1, 1) := by decide +kernel
theorem dX9_bills_94 : decode cX9_bills 94 = .ok (.ineg, 1) := by decide +kernel
theorem dX9_bills_95 : decode cX9_bills 95 = .ok (.iand, 1) := by decide +kernel
theorem dX9_bills_96 : decode cX9_bills 96 = .ok (.ifCond .eq 82, 3) := by decide +kernel
theorem dX9_bills_99 : decode cX9_bills 99 = .ok (.aload_n 0, 1) := by decide +kernel
theorem dX9_bills_100 : decode cX9_bills 100 = .ok (.getfield 69, 3) := by decide +kernel
theorem dX9_bills_103 : decode cX9_bills 103 = .ok (.iload_n 2, 1) := by decide +kernel
theorem dX9_bills_104 : decode cX9_bills 104 = .ok (.laload, 1) := by decide +kernel
theorem dX9_bills_105 : decode cX9_bills 105 = .ok (.ldc2_w 258, 3) := by decide +kernel
theorem dX9_bills_108 : decode cX9_bills 108 = .ok (.lcmp, 1) := by decide +kernel
theorem dX9_bills_109 : decode cX9_bills 109 = .ok (.ifCond .eq 69, 3) := by decide +kernel
theorem dX9_bills_112 : decode cX9_bills 112 = .ok (.aload_n 0, 1) := by decide +kernel
theorem dX9_bills_113 : decode cX9_bills 113 = .ok (.getfield 72, 3) := by decide +kernel
theorem dX9_bills_116 : decode cX9_bills 116 = .ok (.iload_n 1, 1) := by decide +kernel
theorem dX9_bills_117 : decode cX9_bills 117 = .ok (.iload_n 2, 1) := by decide +kernel
theorem dX9_bills_118 : decode cX9_bills 118 = .ok (.iconst (-1), 1) := by decide +kernel
theorem dX9_bills_119 : decode cX9_bills 119 = .ok (.ixor, 1) := by decide +kernel
theorem dX9_bills_120 : decode cX9_bills 120 = .ok (.iand, 1) := by decide +kernel
theorem dX9_bills_121 : decode cX9_bills 121 = .ok (.laload, 1) := by decide +kernel
theorem dX9_bills_122 : decode cX9_bills 122 = .ok (.ldc2_w 258, 3) := by decide +kernel
theorem dX9_bills_125 : decode cX9_bills 125 = .ok (.lcmp, 1) := by decide +kernel
theorem dX9_bills_126 : decode cX9_bills 126 = .ok (.ifCond .ne 6, 3) := by decide +kernel
theorem dX9_bills_129 : decode cX9_bills 129 = .ok (.goto 49, 3) := by decide +kernel
theorem dX9_bills_132 : decode cX9_bills 132 = .ok (.aload_n 0, 1) := by decide +kernel
theorem dX9_bills_133 : decode cX9_bills 133 = .ok (.getfield 69, 3) := by decide +kernel
theorem dX9_bills_136 : decode cX9_bills 136 = .ok (.iload_n 2, 1) := by decide +kernel
theorem dX9_bills_137 : decode cX9_bills 137 = .ok (.laload, 1) := by decide +kernel
theorem dX9_bills_138 : decode cX9_bills 138 = .ok (.aload_n 0, 1) := by decide +kernel
theorem dX9_bills_139 : decode cX9_bills 139 = .ok (.getfield 72, 3) := by decide +kernel
theorem dX9_bills_142 : decode cX9_bills 142 = .ok (.iload_n 1, 1) := by decide +kernel
theorem dX9_bills_143 : decode cX9_bills 143 = .ok (.iload_n 2, 1) := by decide +kernel
theorem dX9_bills_144 : decode cX9_bills 144 = .ok (.iconst (-1), 1) := by decide +kernel
theorem dX9_bills_145 : decode cX9_bills 145 = .ok (.ixor, 1) := by decide +kernel
theorem dX9_bills_146 : decode cX9_bills 146 = .ok (.iand, 1) := by decide +kernel
theorem dX9_bills_147 : decode cX9_bills 147 = .ok (.laload, 1) := by decide +kernel
theorem dX9_bills_148 : decode cX9_bills 148 = .ok (.ladd, 1) := by decide +kernel
theorem dX9_bills_149 : decode cX9_bills 149 = .ok (.lstore_n 3, 1) := by decide +kernel
theorem dX9_bills_150 : decode cX9_bills 150 = .ok (.lload_n 3, 1) := by decide +kernel
theorem dX9_bills_151 : decode cX9_bills 151 = .ok (.aload_n 0, 1) := by decide +kernel
theorem dX9_bills_152 : decode cX9_bills 152 = .ok (.getfield 72, 3) := by decide +kernel
theorem dX9_bills_155 : decode cX9_bills 155 = .ok (.iload_n 1, 1) := by decide +kernel
theorem dX9_bills_156 : decode cX9_bills 156 = .ok (.laload, 1) := by decide +kernel
theorem dX9_bills_157 : decode cX9_bills 157 = .ok (.lcmp, 1) := by decide +kernel
theorem dX9_bills_158 : decode cX9_bills 158 = .ok (.ifCond .lt 6, 3) := by decide +kernel
theorem dX9_bills_161 : decode cX9_bills 161 = .ok (.goto 17, 3) := by decide +kernel
theorem dX9_bills_164 : decode cX9_bills 164 = .ok (.aload_n 0, 1) := by decide +kernel
theorem dX9_bills_165 : decode cX9_bills 165 = .ok (.getfield 72, 3) := by decide +kernel
theorem dX9_bills_168 : decode cX9_bills 168 = .ok (.iload_n 1, 1) := by decide +kernel
theorem dX9_bills_169 : decode cX9_bills 169 = .ok (.lload_n 3, 1) := by decide +kernel
theorem dX9_bills_170 : decode cX9_bills 170 = .ok (.lastore, 1) := by decide +kernel
theorem dX9_bills_171 : decode cX9_bills 171 = .ok (.aload_n 0, 1) := by decide +kernel
theorem dX9_bills_172 : decode cX9_bills 172 = .ok (.getfield 75, 3) := by decide +kernel
theorem dX9_bills_175 : decode cX9_bills 175 = .ok (.iload_n 1, 1) := by decide +kernel
theorem dX9_bills_176 : decode cX9_bills 176 = .ok (.iload_n 2, 1) := by decide +kernel
theorem dX9_bills_177 : decode cX9_bills 177 = .ok (.iastore, 1) := by decide +kernel
theorem dX9_bills_178 : decode cX9_bills 178 = .ok (.iinc 2 1, 3) := by decide +kernel
theorem dX9_bills_181 : decode cX9_bills 181 = .ok (.goto (-104), 3) := by decide +kernel
theorem dX9_bills_184 : decode cX9_bills 184 = .ok (.iinc 1 1, 3) := by decide +kernel
theorem dX9_bills_187 : decode cX9_bills 187 = .ok (.goto (-127), 3) := by decide +kernel
theorem dX9_bills_190 : decode cX9_bills 190 = .ok (.aload_n 0, 1) := by decide +kernel
theorem dX9_bills_191 : decode cX9_bills 191 = .ok (.getfield 72, 3) := by decide +kernel
theorem dX9_bills_194 : decode cX9_bills 194 = .ok (.bipush 15, 2) := by decide +kernel
theorem dX9_bills_196 : decode cX9_bills 196 = .ok (.laload, 1) := by decide +kernel
theorem dX9_bills_197 : decode cX9_bills 197 = .ok (.ldc2_w 258, 3) := by decide +kernel
theorem dX9_bills_200 : decode cX9_bills 200 = .ok (.lcmp, 1) := by decide +kernel
theorem dX9_bills_201 : decode cX9_bills 201 = .ok (.ifCond .ne 7, 3) := by decide +kernel
theorem dX9_bills_204 : decode cX9_bills 204 = .ok (.ldc2_w 273, 3) := by decide +kernel
theorem dX9_bills_207 : decode cX9_bills 207 = .ok (.lreturn, 1) := by decide +kernel
theorem dX9_bills_208 : decode cX9_bills 208 = .ok (.bipush 15, 2) := by decide +kernel
theorem dX9_bills_210 : decode cX9_bills 210 = .ok (.istore_n 1, 1) := by decide +kernel
theorem dX9_bills_211 : decode cX9_bills 211 = .ok (.iload_n 1, 1) := by decide +kernel
theorem dX9_bills_212 : decode cX9_bills 212 = .ok (.ifCond .le 48, 3) := by decide +kernel
theorem dX9_bills_215 : decode cX9_bills 215 = .ok (.aload_n 0, 1) := by decide +kernel
theorem dX9_bills_216 : decode cX9_bills 216 = .ok (.getfield 75, 3) := by decide +kernel
theorem dX9_bills_219 : decode cX9_bills 219 = .ok (.iload_n 1, 1) := by decide +kernel
theorem dX9_bills_220 : decode cX9_bills 220 = .ok (.iaload, 1) := by decide +kernel
theorem dX9_bills_221 : decode cX9_bills 221 = .ok (.istore_n 2, 1) := by decide +kernel
theorem dX9_bills_222 : decode cX9_bills 222 = .ok (.iconst 0, 1) := by decide +kernel
theorem dX9_bills_223 : decode cX9_bills 223 = .ok (.istore_n 3, 1) := by decide +kernel
theorem dX9_bills_224 : decode cX9_bills 224 = .ok (.iload_n 3, 1) := by decide +kernel
theorem dX9_bills_225 : decode cX9_bills 225 = .ok (.iconst 4, 1) := by decide +kernel
theorem dX9_bills_226 : decode cX9_bills 226 = .ok (.if_icmp .ge 25, 3) := by decide +kernel
theorem dX9_bills_229 : decode cX9_bills 229 = .ok (.iload_n 2, 1) := by decide +kernel
theorem dX9_bills_230 : decode cX9_bills 230 = .ok (.iload_n 3, 1) := by decide +kernel
theorem dX9_bills_231 : decode cX9_bills 231 = .ok (.ishr, 1) := by decide +kernel
theorem dX9_bills_232 : decode cX9_bills 232 = .ok (.iconst 1, 1) := by decide +kernel
theorem dX9_bills_233 : decode cX9_bills 233 = .ok (.iand, 1) := by decide +kernel
theorem dX9_bills_234 : decode cX9_bills 234 = .ok (.iconst 1, 1) := by decide +kernel
theorem dX9_bills_235 : decode cX9_bills 235 = .ok (.if_icmp .ne 10, 3) := by decide +kernel
theorem dX9_bills_238 : decode cX9_bills 238 = .ok (.aload_n 0, 1) := by decide +kernel
theorem dX9_bills_239 : decode cX9_bills 239 = .ok (.getfield 78, 3) := by decide +kernel
theorem dX9_bills_242 : decode cX9_bills 242 = .ok (.iload_n 3, 1) := by decide +kernel
theorem dX9_bills_243 : decode cX9_bills 243 = .ok (.iload_n 2, 1) := by decide +kernel
theorem dX9_bills_244 : decode cX9_bills 244 = .ok (.iastore, 1) := by decide +kernel
theorem dX9_bills_245 : decode cX9_bills 245 = .ok (.iinc 3 1, 3) := by decide +kernel
theorem dX9_bills_248 : decode cX9_bills 248 = .ok (.goto (-24), 3) := by decide +kernel
theorem dX9_bills_251 : decode cX9_bills 251 = .ok (.iload_n 1, 1) := by decide +kernel
theorem dX9_bills_252 : decode cX9_bills 252 = .ok (.iload_n 2, 1) := by decide +kernel
theorem dX9_bills_253 : decode cX9_bills 253 = .ok (.iconst (-1), 1) := by decide +kernel
theorem dX9_bills_254 : decode cX9_bills 254 = .ok (.ixor, 1) := by decide +kernel
theorem dX9_bills_255 : decode cX9_bills 255 = .ok (.iand, 1) := by decide +kernel
theorem dX9_bills_256 : decode cX9_bills 256 = .ok (.istore_n 1, 1) := by decide +kernel
theorem dX9_bills_257 : decode cX9_bills 257 = .ok (.goto (-46), 3) := by decide +kernel
theorem dX9_bills_260 : decode cX9_bills 260 = .ok (.aload_n 0, 1) := by decide +kernel
theorem dX9_bills_261 : decode cX9_bills 261 = .ok (.getfield 72, 3) := by decide +kernel
theorem dX9_bills_264 : decode cX9_bills 264 = .ok (.bipush 15, 2) := by decide +kernel
theorem dX9_bills_266 : decode cX9_bills 266 = .ok (.laload, 1) := by decide +kernel
theorem dX9_bills_267 : decode cX9_bills 267 = .ok (.lreturn, 1) := by decide +kernel
theorem dX9_group_0 : decode cX9_group 0 = .ok (.aload_n 0, 1) := by decide +kernel
theorem dX9_group_1 : decode cX9_group 1 = .ok (.iconst 0, 1) := by decide +kernel
theorem dX9_group_2 : decode cX9_group 2 = .ok (.putfield 87, 3) := by decide +kernel
theorem dX9_group_5 : decode cX9_group 5 = .ok (.iload_n 1, 1) := by decide +kernel
theorem dX9_group_6 : decode cX9_group 6 = .ok (.iconst 4, 1) := by decide +kernel
theorem dX9_group_7 : decode cX9_group 7 = .ok (.invokestatic 224, 3) := by decide +kernel
theorem dX9_group_10 : decode cX9_group 10 = .ok (.ifCond .eq 21, 3) := by decide +kernel
theorem dX9_group_13 : decode cX9_group 13 = .ok (.aload_n 0, 1) := by decide +kernel
theorem dX9_group_14 : decode cX9_group 14 = .ok (.getfield 78, 3) := by decide +kernel
theorem dX9_group_17 : decode cX9_group 17 = .ok (.iload_n 1, 1) := by decide +kernel
theorem dX9_group_18 : decode cX9_group 18 = .ok (.iaload, 1) := by decide +kernel
theorem dX9_group_19 : decode cX9_group 19 = .ok (.ifCond .le 12, 3) := by decide +kernel
theorem dX9_group_22 : decode cX9_group 22 = .ok (.aload_n 0, 1) := by decide +kernel
theorem dX9_group_23 : decode cX9_group 23 = .ok (.getfield 78, 3) := by decide +kernel
theorem dX9_group_26 : decode cX9_group 26 = .ok (.iload_n 1, 1) := by decide +kernel
theorem dX9_group_27 : decode cX9_group 27 = .ok (.iaload, 1) := by decide +kernel
theorem dX9_group_28 : decode cX9_group 28 = .ok (.goto 4, 3) := by decide +kernel
theorem dX9_group_31 : decode cX9_group 31 = .ok (.iconst (-1), 1) := by decide +kernel
theorem dX9_group_32 : decode cX9_group 32 = .ok (.ireturn, 1) := by decide +kernel
theorem dX9_span_0 : decode cX9_span 0 = .ok (.aload_n 0, 1) := by decide +kernel
theorem dX9_span_1 : decode cX9_span 1 = .ok (.iconst 0, 1) := by decide +kernel
theorem dX9_span_2 : decode cX9_span 2 = .ok (.putfield 87, 3) := by decide +kernel
theorem dX9_span_5 : decode cX9_span 5 = .ok (.iload_n 1, 1) := by decide +kernel
theorem dX9_span_6 : decode cX9_span 6 = .ok (.iconst 4, 1) := by decide +kernel
theorem dX9_span_7 : decode cX9_span 7 = .ok (.invokestatic 224, 3) := by decide +kernel
theorem dX9_span_10 : decode cX9_span 10 = .ok (.ifCond .eq 19, 3) := by decide +kernel
theorem dX9_span_13 : decode cX9_span 13 = .ok (.iload_n 2, 1) := by decide +kernel
theorem dX9_span_14 : decode cX9_span 14 = .ok (.ifCond .lt 15, 3) := by decide +kernel
theorem dX9_span_17 : decode cX9_span 17 = .ok (.iload_n 2, 1) := by decide +kernel
theorem dX9_span_18 : decode cX9_span 18 = .ok (.iload_n 3, 1) := by decide +kernel
theorem dX9_span_19 : decode cX9_span 19 = .ok (.if_icmp .gt 10, 3) := by decide +kernel
theorem dX9_span_22 : decode cX9_span 22 = .ok (.iload_n 3, 1) := by decide +kernel
theorem dX9_span_23 : decode cX9_span 23 = .ok (.sipush 20000, 3) := by decide +kernel
theorem dX9_span_26 : decode cX9_span 26 = .ok (.if_icmp .le 5, 3) := by decide +kernel
theorem dX9_span_29 : decode cX9_span 29 = .ok (.iconst 0, 1) := by decide +kernel
theorem dX9_span_30 : decode cX9_span 30 = .ok (.ireturn, 1) := by decide +kernel
theorem dX9_span_31 : decode cX9_span 31 = .ok (.aload_n 0, 1) := by decide +kernel
theorem dX9_span_32 : decode cX9_span 32 = .ok (.getfield 81, 3) := by decide +kernel
theorem dX9_span_35 : decode cX9_span 35 = .ok (.iload_n 1, 1) := by decide +kernel
theorem dX9_span_36 : decode cX9_span 36 = .ok (.iload_n 2, 1) := by decide +kernel
theorem dX9_span_37 : decode cX9_span 37 = .ok (.iastore, 1) := by decide +kernel
theorem dX9_span_38 : decode cX9_span 38 = .ok (.aload_n 0, 1) := by decide +kernel
theorem dX9_span_39 : decode cX9_span 39 = .ok (.getfield 84, 3) := by decide +kernel
theorem dX9_span_42 : decode cX9_span 42 = .ok (.iload_n 1, 1) := by decide +kernel
theorem dX9_span_43 : decode cX9_span 43 = .ok (.iload_n 3, 1) := by decide +kernel
theorem dX9_span_44 : decode cX9_span 44 = .ok (.iastore, 1) := by decide +kernel
theorem dX9_span_45 : decode cX9_span 45 = .ok (.iconst 1, 1) := by decide +kernel
theorem dX9_span_46 : decode cX9_span 46 = .ok (.ireturn, 1) := by decide +kernel
theorem dX9_above_0 : decode cX9_above 0 = .ok (.aload_n 0, 1) := by decide +kernel
theorem dX9_above_1 : decode cX9_above 1 = .ok (.iload_n 1, 1) := by decide +kernel
theorem dX9_above_2 : decode cX9_above 2 = .ok (.invokevirtual 214, 3) := by decide +kernel
theorem dX9_above_5 : decode cX9_above 5 = .ok (.ifCond .eq 11, 3) := by decide +kernel
theorem dX9_above_8 : decode cX9_above 8 = .ok (.aload_n 0, 1) := by decide +kernel
theorem dX9_above_9 : decode cX9_above 9 = .ok (.iload_n 2, 1) := by decide +kernel
theorem dX9_above_10 : decode cX9_above 10 = .ok (.invokevirtual 214, 3) := by decide +kernel
theorem dX9_above_13 : decode cX9_above 13 = .ok (.ifCond .ne 9, 3) := by decide +kernel
theorem dX9_above_16 : decode cX9_above 16 = .ok (.aload_n 0, 1) := by decide +kernel
theorem dX9_above_17 : decode cX9_above 17 = .ok (.invokevirtual 217, 3) := by decide +kernel
theorem dX9_above_20 : decode cX9_above 20 = .ok (.i2l, 1) := by decide +kernel
theorem dX9_above_21 : decode cX9_above 21 = .ok (.lreturn, 1) := by decide +kernel
theorem dX9_above_22 : decode cX9_above 22 = .ok (.aload_n 0, 1) := by decide +kernel
theorem dX9_above_23 : decode cX9_above 23 = .ok (.getfield 17, 3) := by decide +kernel
theorem dX9_above_26 : decode cX9_above 26 = .ok (.iload_n 1, 1) := by decide +kernel
theorem dX9_above_27 : decode cX9_above 27 = .ok (.iaload, 1) := by decide +kernel
theorem dX9_above_28 : decode cX9_above 28 = .ok (.aload_n 0, 1) := by decide +kernel
theorem dX9_above_29 : decode cX9_above 29 = .ok (.getfield 17, 3) := by decide +kernel
theorem dX9_above_32 : decode cX9_above 32 = .ok (.iload_n 2, 1) := by decide +kernel
theorem dX9_above_33 : decode cX9_above 33 = .ok (.iaload, 1) := by decide +kernel
theorem dX9_above_34 : decode cX9_above 34 = .ok (.isub, 1) := by decide +kernel
theorem dX9_above_35 : decode cX9_above 35 = .ok (.i2l, 1) := by decide +kernel
theorem dX9_above_36 : decode cX9_above 36 = .ok (.lstore 4, 2) := by decide +kernel
theorem dX9_above_38 : decode cX9_above 38 = .ok (.iconst 0, 1) := by decide +kernel
theorem dX9_above_39 : decode cX9_above 39 = .ok (.istore 6, 2) := by decide +kernel
theorem dX9_above_41 : decode cX9_above 41 = .ok (.iload 6, 2) := by decide +kernel
theorem dX9_above_43 : decode cX9_above 43 = .ok (.iconst 4, 1) := by decide +kernel
theorem dX9_above_44 : decode cX9_above 44 = .ok (.if_icmp .ge 175, 3) := by decide +kernel
theorem dX9_above_47 : decode cX9_above 47 = .ok (.aload_n 0, 1) := by decide +kernel
theorem dX9_above_48 : decode cX9_above 48 = .ok (.getfield 84, 3) := by decide +kernel
theorem dX9_above_51 : decode cX9_above 51 = .ok (.iload 6, 2) := by decide +kernel
theorem dX9_above_53 : decode cX9_above 53 = .ok (.iaload, 1) := by decide +kernel
theorem dX9_above_54 : decode cX9_above 54 = .ok (.ifCond .ne 6, 3) := by decide +kernel
theorem dX9_above_57 : decode cX9_above 57 = .ok (.goto 156, 3) := by decide +kernel
theorem dX9_above_60 : decode cX9_above 60 = .ok (.iconst 4, 1) := by decide +kernel
theorem dX9_above_61 : decode cX9_above 61 = .ok (.iload_n 1, 1) := by decide +kernel
theorem dX9_above_62 : decode cX9_above 62 = .ok (.imul, 1) := by decide +kernel
theorem dX9_above_63 : decode cX9_above 63 = .ok (.iload 6, 2) := by decide +kernel
theorem dX9_above_65 : decode cX9_above 65 = .ok (.iadd, 1) := by decide +kernel
theorem dX9_above_66 : decode cX9_above 66 = .ok (.istore 7, 2) := by decide +kernel
theorem dX9_above_68 : decode cX9_above 68 = .ok (.iconst 4, 1) := by decide +kernel
theorem dX9_above_69 : decode cX9_above 69 = .ok (.iload_n 2, 1) := by decide +kernel
theorem dX9_above_70 : decode cX9_above 70 = .ok (.imul, 1) := by decide +kernel
theorem dX9_above_71 : decode cX9_above 71 = .ok (.iload 6, 2) := by decide +kernel
theorem dX9_above_73 : decode cX9_above 73 = .ok (.iadd, 1) := by decide +kernel
theorem dX9_above_74 : decode cX9_above 74 = .ok (.istore 8, 2) := by decide +kernel
theorem dX9_above_76 : decode cX9_above 76 = .ok (.aload_n 0, 1) := by decide +kernel
theorem dX9_above_77 : decode cX9_above 77 = .ok (.getfield 29, 3) := by decide +kernel
theorem dX9_above_80 : decode cX9_above 80 = .ok (.iload 7, 2) := by decide +kernel
theorem dX9_above_82 : decode cX9_above 82 = .ok (.baload, 1) := by decide +kernel
theorem dX9_above_83 : decode cX9_above 83 = .ok (.ifCond .eq 13, 3) := by decide +kernel
theorem dX9_above_86 : decode cX9_above 86 = .ok (.aload_n 0, 1) := by decide +kernel
theorem dX9_above_87 : decode cX9_above 87 = .ok (.getfield 29, 3) := by decide +kernel
theorem dX9_above_90 : decode cX9_above 90 = .ok (.iload 8, 2) := by decide +kernel
theorem dX9_above_92 : decode cX9_above 92 = .ok (.baload, 1) := by decide +kernel
theorem dX9_above_93 : decode cX9_above 93 = .ok (.ifCond .ne 9, 3) := by decide +kernel
theorem dX9_above_96 : decode cX9_above 96 = .ok (.aload_n 0, 1) := by decide +kernel
theorem dX9_above_97 : decode cX9_above 97 = .ok (.invokevirtual 217, 3) := by decide +kernel
theorem dX9_above_100 : decode cX9_above 100 = .ok (.i2l, 1) := by decide +kernel
theorem dX9_above_101 : decode cX9_above 101 = .ok (.lreturn, 1) := by decide +kernel
theorem dX9_above_102 : decode cX9_above 102 = .ok (.aload_n 0, 1) := by decide +kernel
theorem dX9_above_103 : decode cX9_above 103 = .ok (.iload 7, 2) := by decide +kernel
theorem dX9_above_105 : decode cX9_above 105 = .ok (.aload_n 0, 1) := by decide +kernel
theorem dX9_above_106 : decode cX9_above 106 = .ok (.getfield 81, 3) := by decide +kernel
theorem dX9_above_109 : decode cX9_above 109 = .ok (.iload 6, 2) := by decide +kernel
theorem dX9_above_111 : decode cX9_above 111 = .ok (.iaload, 1) := by decide +kernel
theorem dX9_above_112 : decode cX9_above 112 = .ok (.invokevirtual 238, 3) := by decide +kernel
theorem dX9_above_115 : decode cX9_above 115 = .ok (.aload_n 0, 1) := by decide +kernel
theorem dX9_above_116 : decode cX9_above 116 = .ok (.iload 8, 2) := by decide +kernel
theorem dX9_above_118 : decode cX9_above 118 = .ok (.aload_n 0, 1) := by decide +kernel
theorem dX9_above_119 : decode cX9_above 119 = .ok (.getfield 81, 3) := by decide +kernel
theorem dX9_above_122 : decode cX9_above 122 = .ok (.iload 6, 2) := by decide +kernel
theorem dX9_above_124 : decode cX9_above 124 = .ok (.iaload, 1) := by decide +kernel
theorem dX9_above_125 : decode cX9_above 125 = .ok (.invokevirtual 238, 3) := by decide +kernel
theorem dX9_above_128 : decode cX9_above 128 = .ok (.lsub, 1) := by decide +kernel
theorem dX9_above_129 : decode cX9_above 129 = .ok (.lstore 9, 2) := by decide +kernel
theorem dX9_above_131 : decode cX9_above 131 = .ok (.aload_n 0, 1) := by decide +kernel
theorem dX9_above_132 : decode cX9_above 132 = .ok (.getfield 81, 3) := by decide +kernel
theorem dX9_above_135 : decode cX9_above 135 = .ok (.iload 6, 2) := by decide +kernel
theorem dX9_above_137 : decode cX9_above 137 = .ok (.iaload, 1) := by decide +kernel
theorem dX9_above_138 : decode cX9_above 138 = .ok (.iconst 1, 1) := by decide +kernel
theorem dX9_above_139 : decode cX9_above 139 = .ok (.iadd, 1) := by decide +kernel
theorem dX9_above_140 : decode cX9_above 140 = .ok (.istore 11, 2) := by decide +kernel
theorem dX9_above_142 : decode cX9_above 142 = .ok (.iload 11, 2) := by decide +kernel
theorem dX9_above_144 : decode cX9_above 144 = .ok (.aload_n 0, 1) := by decide +kernel
theorem dX9_above_145 : decode cX9_above 145 = .ok (.getfield 84, 3) := by decide +kernel
theorem dX9_above_148 : decode cX9_above 148 = .ok (.iload 6, 2) := by decide +kernel
theorem dX9_above_150 : decode cX9_above 150 = .ok (.iaload, 1) := by decide +kernel
theorem dX9_above_151 : decode cX9_above 151 = .ok (.if_icmp .gt 55, 3) := by decide +kernel
theorem dX9_above_154 : decode cX9_above 154 = .ok (.aload_n 0, 1) := by decide +kernel
theorem dX9_above_155 : decode cX9_above 155 = .ok (.iload 7, 2) := by decide +kernel
theorem dX9_above_157 : decode cX9_above 157 = .ok (.iload 11, 2) := by decide +kernel
theorem dX9_above_159 : decode cX9_above 159 = .ok (.invokevirtual 238, 3) := by decide +kernel
theorem dX9_above_162 : decode cX9_above 162 = .ok (.aload_n 0, 1) := by decide +kernel
theorem dX9_above_163 : decode cX9_above 163 = .ok (.iload 8, 2) := by decide +kernel
theorem dX9_above_165 : decode cX9_above 165 = .ok (.iload 11, 2) := by decide +kernel
theorem dX9_above_167 : decode cX9_above 167 = .ok (.invokevirtual 238, 3) := by decide +kernel
theorem dX9_above_170 : decode cX9_above 170 = .ok (.lsub, 1) := by decide +kernel
theorem dX9_above_171 : decode cX9_above 171 = .ok (.lstore 12, 2) := by decide +kernel
theorem dX9_above_173 : decode cX9_above 173 = .ok (.iload_n 3, 1) := by decide +kernel
theorem dX9_above_174 : decode cX9_above 174 = .ok (.ifCond .eq 14, 3) := by decide +kernel
theorem dX9_above_177 : decode cX9_above 177 = .ok (.lload 12, 2) := by decide +kernel
theorem dX9_above_179 : decode cX9_above 179 = .ok (.lload 9, 2) := by decide +kernel
theorem dX9_above_181 : decode cX9_above 181 = .ok (.lcmp, 1) := by decide +kernel
theorem dX9_above_182 : decode cX9_above 182 = .ok (.ifCond .le 18, 3) := by decide +kernel
theorem dX9_above_185 : decode cX9_above 185 = .ok (.goto 11, 3) := by decide +kernel
theorem dX9_above_188 : decode cX9_above 188 = .ok (.lload 12, 2) := by decide +kernel
theorem dX9_above_190 : decode cX9_above 190 = .ok (.lload 9, 2) := by decide +kernel
theorem dX9_above_192 : decode cX9_above 192 = .ok (.lcmp, 1) := by decide +kernel
theorem dX9_above_193 : decode cX9_above 193 = .ok (.ifCond .ge 7, 3) := by decide +kernel
theorem dX9_above_196 : decode cX9_above 196 = .ok (.lload 12, 2) := by decide +kernel
theorem dX9_above_198 : decode cX9_above 198 = .ok (.lstore 9, 2) := by decide +kernel
theorem dX9_above_200 : decode cX9_above 200 = .ok (.iinc 11 1, 3) := by decide +kernel
theorem dX9_above_203 : decode cX9_above 203 = .ok (.goto (-61), 3) := by decide +kernel
theorem dX9_above_206 : decode cX9_above 206 = .ok (.lload 4, 2) := by decide +kernel
theorem dX9_above_208 : decode cX9_above 208 = .ok (.lload 9, 2) := by decide +kernel
theorem dX9_above_210 : decode cX9_above 210 = .ok (.ladd, 1) := by decide +kernel
theorem dX9_above_211 : decode cX9_above 211 = .ok (.lstore 4, 2) := by decide +kernel
theorem dX9_above_213 : decode cX9_above 213 = .ok (.iinc 6 1, 3) := by decide +kernel
theorem dX9_above_216 : decode cX9_above 216 = .ok (.goto (-175), 3) := by decide +kernel
theorem dX9_above_219 : decode cX9_above 219 = .ok (.aload_n 0, 1) := by decide +kernel
theorem dX9_above_220 : decode cX9_above 220 = .ok (.iconst 0, 1) := by decide +kernel
theorem dX9_above_221 : decode cX9_above 221 = .ok (.putfield 87, 3) := by decide +kernel
theorem dX9_above_224 : decode cX9_above 224 = .ok (.lload 4, 2) := by decide +kernel
theorem dX9_above_226 : decode cX9_above 226 = .ok (.lreturn, 1) := by decide +kernel
theorem dX9_count_0 : decode cX9_count 0 = .ok (.aload_n 0, 1) := by decide +kernel
theorem dX9_count_1 : decode cX9_count 1 = .ok (.iconst 0, 1) := by decide +kernel
theorem dX9_count_2 : decode cX9_count 2 = .ok (.putfield 87, 3) := by decide +kernel
theorem dX9_count_5 : decode cX9_count 5 = .ok (.iload_n 1, 1) := by decide +kernel
theorem dX9_count_6 : decode cX9_count 6 = .ok (.tableswitch 50 0 3 #[30, 35, 40, 45], 30) := by decide +kernel
theorem dX9_count_36 : decode cX9_count 36 = .ok (.aload_n 0, 1) := by decide +kernel
theorem dX9_count_37 : decode cX9_count 37 = .ok (.getfield 205, 3) := by decide +kernel
theorem dX9_count_40 : decode cX9_count 40 = .ok (.ireturn, 1) := by decide +kernel
theorem dX9_count_41 : decode cX9_count 41 = .ok (.aload_n 0, 1) := by decide +kernel
theorem dX9_count_42 : decode cX9_count 42 = .ok (.getfield 232, 3) := by decide +kernel
theorem dX9_count_45 : decode cX9_count 45 = .ok (.ireturn, 1) := by decide +kernel
theorem dX9_count_46 : decode cX9_count 46 = .ok (.aload_n 0, 1) := by decide +kernel
theorem dX9_count_47 : decode cX9_count 47 = .ok (.getfield 91, 3) := by decide +kernel
theorem dX9_count_50 : decode cX9_count 50 = .ok (.ireturn, 1) := by decide +kernel
theorem dX9_count_51 : decode cX9_count 51 = .ok (.aload_n 0, 1) := by decide +kernel
theorem dX9_count_52 : decode cX9_count 52 = .ok (.getfield 221, 3) := by decide +kernel
theorem dX9_count_55 : decode cX9_count 55 = .ok (.ireturn, 1) := by decide +kernel
theorem dX9_count_56 : decode cX9_count 56 = .ok (.iconst (-1), 1) := by decide +kernel
theorem dX9_count_57 : decode cX9_count 57 = .ok (.ireturn, 1) := by decide +kernel
theorem dJ9_max_7cf53_0 : decode cJ9_max_7cf53 0 = .ok (.iload_n 0, 1) := by decide +kernel
theorem dJ9_max_7cf53_1 : decode cJ9_max_7cf53 1 = .ok (.iload_n 1, 1) := by decide +kernel
theorem dJ9_max_7cf53_2 : decode cJ9_max_7cf53 2 = .ok (.if_icmp .lt 7, 3) := by decide +kernel
theorem dJ9_max_7cf53_5 : decode cJ9_max_7cf53 5 = .ok (.iload_n 0, 1) := by decide +kernel
theorem dJ9_max_7cf53_6 : decode cJ9_max_7cf53 6 = .ok (.goto 4, 3) := by decide +kernel
theorem dJ9_max_7cf53_9 : decode cJ9_max_7cf53 9 = .ok (.iload_n 1, 1) := by decide +kernel
theorem dJ9_max_7cf53_10 : decode cJ9_max_7cf53 10 = .ok (.ireturn, 1) := by decide +kernel
theorem dJ9_max_f86c9_0 : decode cJ9_max_f86c9 0 = .ok (.lload_n 0, 1) := by decide +kernel
theorem dJ9_max_f86c9_1 : decode cJ9_max_f86c9 1 = .ok (.lload_n 2, 1) := by decide +kernel
theorem dJ9_max_f86c9_2 : decode cJ9_max_f86c9 2 = .ok (.lcmp, 1) := by decide +kernel
theorem dJ9_max_f86c9_3 : decode cJ9_max_f86c9 3 = .ok (.ifCond .lt 7, 3) := by decide +kernel
theorem dJ9_max_f86c9_6 : decode cJ9_max_f86c9 6 = .ok (.lload_n 0, 1) := by decide +kernel
theorem dJ9_max_f86c9_7 : decode cJ9_max_f86c9 7 = .ok (.goto 4, 3) := by decide +kernel
theorem dJ9_max_f86c9_10 : decode cJ9_max_f86c9 10 = .ok (.lload_n 2, 1) := by decide +kernel
theorem dJ9_max_f86c9_11 : decode cJ9_max_f86c9 11 = .ok (.lreturn, 1) := by decide +kernel
theorem dJ9_min_7cf53_0 : decode cJ9_min_7cf53 0 = .ok (.iload_n 0, 1) := by decide +kernel
theorem dJ9_min_7cf53_1 : decode cJ9_min_7cf53 1 = .ok (.iload_n 1, 1) := by decide +kernel
theorem dJ9_min_7cf53_2 : decode cJ9_min_7cf53 2 = .ok (.if_icmp .gt 7, 3) := by decide +kernel
theorem dJ9_min_7cf53_5 : decode cJ9_min_7cf53 5 = .ok (.iload_n 0, 1) := by decide +kernel
theorem dJ9_min_7cf53_6 : decode cJ9_min_7cf53 6 = .ok (.goto 4, 3) := by decide +kernel
theorem dJ9_min_7cf53_9 : decode cJ9_min_7cf53 9 = .ok (.iload_n 1, 1) := by decide +kernel
theorem dJ9_min_7cf53_10 : decode cJ9_min_7cf53 10 = .ok (.ireturn, 1) := by decide +kernel
theorem dJ9_min_f86c9_0 : decode cJ9_min_f86c9 0 = .ok (.lload_n 0, 1) := by decide +kernel
theorem dJ9_min_f86c9_1 : decode cJ9_min_f86c9 1 = .ok (.lload_n 2, 1) := by decide +kernel
theorem dJ9_min_f86c9_2 : decode cJ9_min_f86c9 2 = .ok (.lcmp, 1) := by decide +kernel
theorem dJ9_min_f86c9_3 : decode cJ9_min_f86c9 3 = .ok (.ifCond .gt 7, 3) := by decide +kernel
theorem dJ9_min_f86c9_6 : decode cJ9_min_f86c9 6 = .ok (.lload_n 0, 1) := by decide +kernel
theorem dJ9_min_f86c9_7 : decode cJ9_min_f86c9 7 = .ok (.goto 4, 3) := by decide +kernel
theorem dJ9_min_f86c9_10 : decode cJ9_min_f86c9 10 = .ok (.lload_n 2, 1) := by decide +kernel
theorem dJ9_min_f86c9_11 : decode cJ9_min_f86c9 11 = .ok (.lreturn, 1) := by decide +kernel
theorem dL_plan_0 : decode cL_plan 0 = .ok (.aload_n 3, 1) := by decide +kernel
theorem dL_plan_1 : decode cL_plan 1 = .ok (.iconst 0, 1) := by decide +kernel
theorem dL_plan_2 : decode cL_plan 2 = .ok (.aload_n 0, 1) := by decide +kernel
theorem dL_plan_3 : decode cL_plan 3 = .ok (.iload_n 1, 1) := by decide +kernel
theorem dL_plan_4 : decode cL_plan 4 = .ok (.iload_n 2, 1) := by decide +kernel
theorem dL_plan_5 : decode cL_plan 5 = .ok (.invokevirtual 7, 3) := by decide +kernel
theorem dL_plan_8 : decode cL_plan 8 = .ok (.i2l, 1) := by decide +kernel
theorem dL_plan_9 : decode cL_plan 9 = .ok (.lastore, 1) := by decide +kernel
theorem dL_plan_10 : decode cL_plan 10 = .ok (.goto 7, 3) := by decide +kernel
theorem dL_plan_13 : decode cL_plan 13 = .ok (.astore 4, 2) := by decide +kernel
theorem dL_plan_15 : decode cL_plan 15 = .ok (.iconst 1, 1) := by decide +kernel
theorem dL_plan_16 : decode cL_plan 16 = .ok (.ireturn, 1) := by decide +kernel
theorem dL_plan_17 : decode cL_plan 17 = .ok (.iconst 0, 1) := by decide +kernel
theorem dL_plan_18 : decode cL_plan 18 = .ok (.ireturn, 1) := by decide +kernel
theorem dL_octet_0 : decode cL_octet 0 = .ok (.aload_n 2, 1) := by decide +kernel
theorem dL_octet_1 : decode cL_octet 1 = .ok (.iconst 0, 1) := by decide +kernel
theorem dL_octet_2 : decode cL_octet 2 = .ok (.aload_n 0, 1) := by decide +kernel
theorem dL_octet_3 : decode cL_octet 3 = .ok (.iload_n 1, 1) := by decide +kernel
theorem dL_octet_4 : decode cL_octet 4 = .ok (.invokevirtual 15, 3) := by decide +kernel
theorem dL_octet_7 : decode cL_octet 7 = .ok (.i2l, 1) := by decide +kernel
theorem dL_octet_8 : decode cL_octet 8 = .ok (.lastore, 1) := by decide +kernel
theorem dL_octet_9 : decode cL_octet 9 = .ok (.goto 6, 3) := by decide +kernel
theorem dL_octet_12 : decode cL_octet 12 = .ok (.astore_n 3, 1) := by decide +kernel
theorem dL_octet_13 : decode cL_octet 13 = .ok (.iconst 1, 1) := by decide +kernel
theorem dL_octet_14 : decode cL_octet 14 = .ok (.ireturn, 1) := by decide +kernel
theorem dL_octet_15 : decode cL_octet 15 = .ok (.iconst 0, 1) := by decide +kernel
theorem dL_octet_16 : decode cL_octet 16 = .ok (.ireturn, 1) := by decide +kernel
theorem dL_cost_0 : decode cL_cost 0 = .ok (.aload 5, 2) := by decide +kernel
theorem dL_cost_2 : decode cL_cost 2 = .ok (.iconst 0, 1) := by decide +kernel
theorem dL_cost_3 : decode cL_cost 3 = .ok (.aload_n 0, 1) := by decide +kernel
theorem dL_cost_4 : decode cL_cost 4 = .ok (.iload_n 1, 1) := by decide +kernel
theorem dL_cost_5 : decode cL_cost 5 = .ok (.iload_n 2, 1) := by decide +kernel
theorem dL_cost_6 : decode cL_cost 6 = .ok (.iload_n 3, 1) := by decide +kernel
theorem dL_cost_7 : decode cL_cost 7 = .ok (.iload 4, 2) := by decide +kernel
theorem dL_cost_9 : decode cL_cost 9 = .ok (.invokevirtual 19, 3) := by decide +kernel
theorem dL_cost_12 : decode cL_cost 12 = .ok (.lastore, 1) := by decide +kernel
theorem dL_cost_13 : decode cL_cost 13 = .ok (.goto 7, 3) := by decide +kernel
theorem dL_cost_16 : decode cL_cost 16 = .ok (.astore 6, 2) := by decide +kernel
theorem dL_cost_18 : decode cL_cost 18 = .ok (.iconst 1, 1) := by decide +kernel
theorem dL_cost_19 : decode cL_cost 19 = .ok (.ireturn, 1) := by decide +kernel
theorem dL_cost_20 : decode cL_cost 20 = .ok (.iconst 0, 1) := by decide +kernel
theorem dL_cost_21 : decode cL_cost 21 = .ok (.ireturn, 1) := by decide +kernel
theorem dL_bill_0 : decode cL_bill 0 = .ok (.aload 6, 2) := by decide +kernel
theorem dL_bill_2 : decode cL_bill 2 = .ok (.iconst 0, 1) := by decide +kernel
theorem dL_bill_3 : decode cL_bill 3 = .ok (.aload_n 0, 1) := by decide +kernel
theorem dL_bill_4 : decode cL_bill 4 = .ok (.iload_n 1, 1) := by decide +kernel
theorem dL_bill_5 : decode cL_bill 5 = .ok (.iload_n 2, 1) := by decide +kernel
theorem dL_bill_6 : decode cL_bill 6 = .ok (.iload_n 3, 1) := by decide +kernel
theorem dL_bill_7 : decode cL_bill 7 = .ok (.lload 4, 2) := by decide +kernel
theorem dL_bill_9 : decode cL_bill 9 = .ok (.invokevirtual 23, 3) := by decide +kernel
theorem dL_bill_12 : decode cL_bill 12 = .ok (.lastore, 1) := by decide +kernel
theorem dL_bill_13 : decode cL_bill 13 = .ok (.goto 7, 3) := by decide +kernel
theorem dL_bill_16 : decode cL_bill 16 = .ok (.astore 7, 2) := by decide +kernel
theorem dL_bill_18 : decode cL_bill 18 = .ok (.iconst 1, 1) := by decide +kernel
theorem dL_bill_19 : decode cL_bill 19 = .ok (.ireturn, 1) := by decide +kernel
theorem dL_bill_20 : decode cL_bill 20 = .ok (.iconst 0, 1) := by decide +kernel
theorem dL_bill_21 : decode cL_bill 21 = .ok (.ireturn, 1) := by decide +kernel
theorem dL_above_0 : decode cL_above 0 = .ok (.aload 4, 2) := by decide +kernel
theorem dL_above_2 : decode cL_above 2 = .ok (.iconst 0, 1) := by decide +kernel
theorem dL_above_3 : decode cL_above 3 = .ok (.aload_n 0, 1) := by decide +kernel
theorem dL_above_4 : decode cL_above 4 = .ok (.iload_n 1, 1) := by decide +kernel
theorem dL_above_5 : decode cL_above 5 = .ok (.iload_n 2, 1) := by decide +kernel
theorem dL_above_6 : decode cL_above 6 = .ok (.iload_n 3, 1) := by decide +kernel
theorem dL_above_7 : decode cL_above 7 = .ok (.invokevirtual 27, 3) := by decide +kernel
theorem dL_above_10 : decode cL_above 10 = .ok (.lastore, 1) := by decide +kernel
theorem dL_above_11 : decode cL_above 11 = .ok (.goto 7, 3) := by decide +kernel
theorem dL_above_14 : decode cL_above 14 = .ok (.astore 5, 2) := by decide +kernel
theorem dL_above_16 : decode cL_above 16 = .ok (.iconst 1, 1) := by decide +kernel
theorem dL_above_17 : decode cL_above 17 = .ok (.ireturn, 1) := by decide +kernel
theorem dL_above_18 : decode cL_above 18 = .ok (.iconst 0, 1) := by decide +kernel
theorem dL_above_19 : decode cL_above 19 = .ok (.ireturn, 1) := by decide +kernel
theorem dL_law_0 : decode cL_law 0 = .ok (.new 8, 3) := by decide +kernel
theorem dL_law_3 : decode cL_law 3 = .ok (.dup, 1) := by decide +kernel
theorem dL_law_4 : decode cL_law 4 = .ok (.invokespecial 31, 3) := by decide +kernel
theorem dL_law_7 : decode cL_law 7 = .ok (.astore_n 1, 1) := by decide +kernel
theorem dL_law_8 : decode cL_law 8 = .ok (.new 32, 3) := by decide +kernel
theorem dL_law_11 : decode cL_law 11 = .ok (.dup, 1) := by decide +kernel
theorem dL_law_12 : decode cL_law 12 = .ok (.invokespecial 34, 3) := by decide +kernel
theorem dL_law_15 : decode cL_law 15 = .ok (.astore_n 2, 1) := by decide +kernel
theorem dL_law_16 : decode cL_law 16 = .ok (.iconst 1, 1) := by decide +kernel
theorem dL_law_17 : decode cL_law 17 = .ok (.newarray .long, 2) := by decide +kernel
theorem dL_law_19 : decode cL_law 19 = .ok (.astore_n 3, 1) := by decide +kernel
theorem dL_law_20 : decode cL_law 20 = .ok (.iconst 0, 1) := by decide +kernel
theorem dL_law_21 : decode cL_law 21 = .ok (.istore 4, 2) := by decide +kernel
theorem dL_law_23 : decode cL_law 23 = .ok (.iload 4, 2) := by decide +kernel
theorem dL_law_25 : decode cL_law 25 = .ok (.aload_n 0, 1) := by decide +kernel
theorem dL_law_26 : decode cL_law 26 = .ok (.arraylength, 1) := by decide +kernel
theorem dL_law_27 : decode cL_law 27 = .ok (.bipush 6, 2) := by decide +kernel
theorem dL_law_29 : decode cL_law 29 = .ok (.isub, 1) := by decide +kernel
theorem dL_law_30 : decode cL_law 30 = .ok (.if_icmp .gt 1001, 3) := by decide +kernel
theorem dL_law_33 : decode cL_law 33 = .ok (.aload_n 0, 1) := by decide +kernel
theorem dL_law_34 : decode cL_law 34 = .ok (.iload 4, 2) := by decide +kernel
theorem dL_law_36 : decode cL_law 36 = .ok (.iaload, 1) := by decide +kernel
theorem dL_law_37 : decode cL_law 37 = .ok (.bipush 31, 2) := by decide +kernel
theorem dL_law_39 : decode cL_law 39 = .ok (.iand, 1) := by decide +kernel
theorem dL_law_40 : decode cL_law 40 = .ok (.tableswitch 985 0 18 #[92, 165, 190, 203, 216, 284, 309, 365, 414, 463, 488, 579, 702, 752, 777, 791, 816, 865, 960], 92) := by decide +kernel
theorem dL_law_132 : decode cL_law 132 = .ok (.aload_n 1, 1) := by decide +kernel
theorem dL_law_133 : decode cL_law 133 = .ok (.aload_n 0, 1) := by decide +kernel
theorem dL_law_134 : decode cL_law 134 = .ok (.iload 4, 2) := by decide +kernel
theorem dL_law_136 : decode cL_law 136 = .ok (.iconst 1, 1) := by decide +kernel
theorem dL_law_137 : decode cL_law 137 = .ok (.iadd, 1) := by decide +kernel
theorem dL_law_138 : decode cL_law 138 = .ok (.iaload, 1) := by decide +kernel
theorem dL_law_139 : decode cL_law 139 = .ok (.aload_n 0, 1) := by decide +kernel
theorem dL_law_140 : decode cL_law 140 = .ok (.iload 4, 2) := by decide +kernel
theorem dL_law_142 : decode cL_law 142 = .ok (.iconst 2, 1) := by decide +kernel
theorem dL_law_143 : decode cL_law 143 = .ok (.iadd, 1) := by decide +kernel
theorem dL_law_144 : decode cL_law 144 = .ok (.iaload, 1) := by decide +kernel
theorem dL_law_145 : decode cL_law 145 = .ok (.aload_n 0, 1) := by decide +kernel
theorem dL_law_146 : decode cL_law 146 = .ok (.iload 4, 2) := by decide +kernel
theorem dL_law_148 : decode cL_law 148 = .ok (.iconst 3, 1) := by decide +kernel
theorem dL_law_149 : decode cL_law 149 = .ok (.iadd, 1) := by decide +kernel
theorem dL_law_150 : decode cL_law 150 = .ok (.iaload, 1) := by decide +kernel
theorem dL_law_151 : decode cL_law 151 = .ok (.aload_n 0, 1) := by decide +kernel
theorem dL_law_152 : decode cL_law 152 = .ok (.iload 4, 2) := by decide +kernel
theorem dL_law_154 : decode cL_law 154 = .ok (.iconst 4, 1) := by decide +kernel
theorem dL_law_155 : decode cL_law 155 = .ok (.iadd, 1) := by decide +kernel
theorem dL_law_156 : decode cL_law 156 = .ok (.iaload, 1) := by decide +kernel
theorem dL_law_157 : decode cL_law 157 = .ok (.aload_n 0, 1) := by decide +kernel
theorem dL_law_158 : decode cL_law 158 = .ok (.iload 4, 2) := by decide +kernel
theorem dL_law_160 : decode cL_law 160 = .ok (.iconst 5, 1) := by decide +kernel
theorem dL_law_161 : decode cL_law 161 = .ok (.iadd, 1) := by decide +kernel
theorem dL_law_162 : decode cL_law 162 = .ok (.iaload, 1) := by decide +kernel
theorem dL_law_163 : decode cL_law 163 = .ok (.invokevirtual 35, 3) := by decide +kernel
theorem dL_law_166 : decode cL_law 166 = .ok (.aload_n 2, 1) := by decide +kernel
theorem dL_law_167 : decode cL_law 167 = .ok (.aload_n 0, 1) := by decide +kernel
theorem dL_law_168 : decode cL_law 168 = .ok (.iload 4, 2) := by decide +kernel
theorem dL_law_170 : decode cL_law 170 = .ok (.iconst 1, 1) := by decide +kernel
theorem dL_law_171 : decode cL_law 171 = .ok (.iadd, 1) := by decide +kernel
theorem dL_law_172 : decode cL_law 172 = .ok (.iaload, 1) := by decide +kernel
theorem dL_law_173 : decode cL_law 173 = .ok (.aload_n 0, 1) := by decide +kernel
theorem dL_law_174 : decode cL_law 174 = .ok (.iload 4, 2) := by decide +kernel
theorem dL_law_176 : decode cL_law 176 = .ok (.iconst 2, 1) := by decide +kernel
theorem dL_law_177 : decode cL_law 177 = .ok (.iadd, 1) := by decide +kernel
theorem dL_law_178 : decode cL_law 178 = .ok (.iaload, 1) := by decide +kernel
theorem dL_law_179 : decode cL_law 179 = .ok (.aload_n 0, 1) := by decide +kernel
theorem dL_law_180 : decode cL_law 180 = .ok (.iload 4, 2) := by decide +kernel
theorem dL_law_182 : decode cL_law 182 = .ok (.iconst 3, 1) := by decide +kernel
theorem dL_law_183 : decode cL_law 183 = .ok (.iadd, 1) := by decide +kernel
theorem dL_law_184 : decode cL_law 184 = .ok (.iaload, 1) := by decide +kernel
theorem dL_law_185 : decode cL_law 185 = .ok (.aload_n 0, 1) := by decide +kernel
theorem dL_law_186 : decode cL_law 186 = .ok (.iload 4, 2) := by decide +kernel
theorem dL_law_188 : decode cL_law 188 = .ok (.iconst 4, 1) := by decide +kernel
theorem dL_law_189 : decode cL_law 189 = .ok (.iadd, 1) := by decide +kernel
theorem dL_law_190 : decode cL_law 190 = .ok (.iaload, 1) := by decide +kernel
theorem dL_law_191 : decode cL_law 191 = .ok (.aload_n 0, 1) := by decide +kernel
theorem dL_law_192 : decode cL_law 192 = .ok (.iload 4, 2) := by decide +kernel
theorem dL_law_194 : decode cL_law 194 = .ok (.iconst 5, 1) := by decide +kernel
theorem dL_law_195 : decode cL_law 195 = .ok (.iadd, 1) := by decide +kernel
theorem dL_law_196 : decode cL_law 196 = .ok (.iaload, 1) := by decide +kernel
theorem dL_law_197 : decode cL_law 197 = .ok (.invokevirtual 39, 3) := by decide +kernel
theorem dL_law_200 : decode cL_law 200 = .ok (.if_icmp .eq 825, 3) := by decide +kernel
theorem dL_law_203 : decode cL_law 203 = .ok (.iconst 0, 1) := by decide +kernel
theorem dL_law_204 : decode cL_law 204 = .ok (.ireturn, 1) := by decide +kernel
theorem dL_law_205 : decode cL_law 205 = .ok (.aload_n 1, 1) := by decide +kernel
theorem dL_law_206 : decode cL_law 206 = .ok (.aload_n 0, 1) := by decide +kernel
theorem dL_law_207 : decode cL_law 207 = .ok (.iload 4, 2) := by decide +kernel
theorem dL_law_209 : decode cL_law 209 = .ok (.iconst 1, 1) := by decide +kernel
theorem dL_law_210 : decode cL_law 210 = .ok (.iadd, 1) := by decide +kernel
theorem dL_law_211 : decode cL_law 211 = .ok (.iaload, 1) := by decide +kernel
theorem dL_law_212 : decode cL_law 212 = .ok (.invokevirtual 40, 3) := by decide +kernel
theorem dL_law_215 : decode cL_law 215 = .ok (.aload_n 2, 1) := by decide +kernel
theorem dL_law_216 : decode cL_law 216 = .ok (.aload_n 0, 1) := by decide +kernel
theorem dL_law_217 : decode cL_law 217 = .ok (.iload 4, 2) := by decide +kernel
theorem dL_law_219 : decode cL_law 219 = .ok (.iconst 1, 1) := by decide +kernel
theorem dL_law_220 : decode cL_law 220 = .ok (.iadd, 1) := by decide +kernel
theorem dL_law_221 : decode cL_law 221 = .ok (.iaload, 1) := by decide +kernel
theorem dL_law_222 : decode cL_law 222 = .ok (.invokevirtual 44, 3) := by decide +kernel
theorem dL_law_225 : decode cL_law 225 = .ok (.if_icmp .eq 800, 3) := by decide +kernel
theorem dL_law_228 : decode cL_law 228 = .ok (.iconst 0, 1) := by decide +kernel
theorem dL_law_229 : decode cL_law 229 = .ok (.ireturn, 1) := by decide +kernel
theorem dL_law_230 : decode cL_law 230 = .ok (.aload_n 1, 1) := by decide +kernel
theorem dL_law_231 : decode cL_law 231 = .ok (.invokevirtual 45, 3) := by decide +kernel
theorem dL_law_234 : decode cL_law 234 = .ok (.aload_n 2, 1) := by decide +kernel
theorem dL_law_235 : decode cL_law 235 = .ok (.invokevirtual 49, 3) := by decide +kernel
theorem dL_law_238 : decode cL_law 238 = .ok (.if_icmp .eq 787, 3) := by decide +kernel
theorem dL_law_241 : decode cL_law 241 = .ok (.iconst 0, 1) := by decide +kernel
theorem dL_law_242 : decode cL_law 242 = .ok (.ireturn, 1) := by decide +kernel
theorem dL_law_243 : decode cL_law 243 = .ok (.aload_n 1, 1) := by decide +kernel
theorem dL_law_244 : decode cL_law 244 = .ok (.invokevirtual 50, 3) := by decide +kernel
theorem dL_law_247 : decode cL_law 247 = .ok (.aload_n 2, 1) := by decide +kernel
theorem dL_law_248 : decode cL_law 248 = .ok (.invokevirtual 53, 3) := by decide +kernel
theorem dL_law_251 : decode cL_law 251 = .ok (.if_icmp .eq 774, 3) := by decide +kernel
theorem dL_law_254 : decode cL_law 254 = .ok (.iconst 0, 1) := by decide +kernel
theorem dL_law_255 : decode cL_law 255 = .ok (.ireturn, 1) := by decide +kernel
theorem dL_law_256 : decode cL_law 256 = .ok (.aload_n 1, 1) := by decide +kernel
theorem dL_law_257 : decode cL_law 257 = .ok (.aload_n 0, 1) := by decide +kernel
theorem dL_law_258 : decode cL_law 258 = .ok (.iload 4, 2) := by decide +kernel
theorem dL_law_260 : decode cL_law 260 = .ok (.iconst 1, 1) := by decide +kernel
theorem dL_law_261 : decode cL_law 261 = .ok (.iadd, 1) := by decide +kernel
theorem dL_law_262 : decode cL_law 262 = .ok (.iaload, 1) := by decide +kernel
theorem dL_law_263 : decode cL_law 263 = .ok (.aload_n 0, 1) := by decide +kernel
theorem dL_law_264 : decode cL_law 264 = .ok (.iload 4, 2) := by decide +kernel
theorem dL_law_266 : decode cL_law 266 = .ok (.iconst 2, 1) := by decide +kernel
theorem dL_law_267 : decode cL_law 267 = .ok (.iadd, 1) := by decide +kernel
theorem dL_law_268 : decode cL_law 268 = .ok (.iaload, 1) := by decide +kernel
theorem dL_law_269 : decode cL_law 269 = .ok (.aload_n 3, 1) := by decide +kernel
theorem dL_law_270 : decode cL_law 270 = .ok (.invokestatic 54, 3) := by decide +kernel
theorem dL_law_273 : decode cL_law 273 = .ok (.istore 5, 2) := by decide +kernel
theorem dL_law_275 : decode cL_law 275 = .ok (.aload_n 2, 1) := by decide +kernel
theorem dL_law_276 : decode cL_law 276 = .ok (.aload_n 0, 1) := by decide +kernel
theorem dL_law_277 : decode cL_law 277 = .ok (.iload 4, 2) := by decide +kernel
theorem dL_law_279 : decode cL_law 279 = .ok (.iconst 1, 1) := by decide +kernel
theorem dL_law_280 : decode cL_law 280 = .ok (.iadd, 1) := by decide +kernel
theorem dL_law_281 : decode cL_law 281 = .ok (.iaload, 1) := by decide +kernel
theorem dL_law_282 : decode cL_law 282 = .ok (.aload_n 0, 1) := by decide +kernel
theorem dL_law_283 : decode cL_law 283 = .ok (.iload 4, 2) := by decide +kernel
theorem dL_law_285 : decode cL_law 285 = .ok (.iconst 2, 1) := by decide +kernel
theorem dL_law_286 : decode cL_law 286 = .ok (.iadd, 1) := by decide +kernel
theorem dL_law_287 : decode cL_law 287 = .ok (.iaload, 1) := by decide +kernel
theorem dL_law_288 : decode cL_law 288 = .ok (.invokevirtual 59, 3) := by decide +kernel
theorem dL_law_291 : decode cL_law 291 = .ok (.istore 6, 2) := by decide +kernel
theorem dL_law_293 : decode cL_law 293 = .ok (.aload_n 2, 1) := by decide +kernel
theorem dL_law_294 : decode cL_law 294 = .ok (.invokevirtual 60, 3) := by decide +kernel
theorem dL_law_297 : decode cL_law 297 = .ok (.iload 5, 2) := by decide +kernel
theorem dL_law_299 : decode cL_law 299 = .ok (.if_icmp .eq 5, 3) := by decide +kernel
theorem dL_law_302 : decode cL_law 302 = .ok (.iconst 0, 1) := by decide +kernel
theorem dL_law_303 : decode cL_law 303 = .ok (.ireturn, 1) := by decide +kernel
theorem dL_law_304 : decode cL_law 304 = .ok (.iload 5, 2) := by decide +kernel
theorem dL_law_306 : decode cL_law 306 = .ok (.ifCond .ne 15, 3) := by decide +kernel
theorem dL_law_309 : decode cL_law 309 = .ok (.aload_n 3, 1) := by decide +kernel
theorem dL_law_310 : decode cL_law 310 = .ok (.iconst 0, 1) := by decide +kernel
theorem dL_law_311 : decode cL_law 311 = .ok (.laload, 1) := by decide +kernel
theorem dL_law_312 : decode cL_law 312 = .ok (.iload 6, 2) := by decide +kernel
theorem dL_law_314 : decode cL_law 314 = .ok (.i2l, 1) := by decide +kernel
theorem dL_law_315 : decode cL_law 315 = .ok (.lcmp, 1) := by decide +kernel
theorem dL_law_316 : decode cL_law 316 = .ok (.ifCond .eq 5, 3) := by decide +kernel
theorem dL_law_319 : decode cL_law 319 = .ok (.iconst 0, 1) := by decide +kernel
theorem dL_law_320 : decode cL_law 320 = .ok (.ireturn, 1) := by decide +kernel
theorem dL_law_321 : decode cL_law 321 = .ok (.goto 704, 3) := by decide +kernel
theorem dL_law_324 : decode cL_law 324 = .ok (.aload_n 1, 1) := by decide +kernel
theorem dL_law_325 : decode cL_law 325 = .ok (.aload_n 0, 1) := by decide +kernel
theorem dL_law_326 : decode cL_law 326 = .ok (.iload 4, 2) := by decide +kernel
theorem dL_law_328 : decode cL_law 328 = .ok (.iconst 1, 1) := by decide +kernel
theorem dL_law_329 : decode cL_law 329 = .ok (.iadd, 1) := by decide +kernel
theorem dL_law_330 : decode cL_law 330 = .ok (.iaload, 1) := by decide +kernel
theorem dL_law_331 : decode cL_law 331 = .ok (.invokevirtual 63, 3) := by decide +kernel
theorem dL_law_334 : decode cL_law 334 = .ok (.aload_n 2, 1) := by decide +kernel
theorem dL_law_335 : decode cL_law 335 = .ok (.aload_n 0, 1) := by decide +kernel
theorem dL_law_336 : decode cL_law 336 = .ok (.iload 4, 2) := by decide +kernel
theorem dL_law_338 : decode cL_law 338 = .ok (.iconst 1, 1) := by decide +kernel
theorem dL_law_339 : decode cL_law 339 = .ok (.iadd, 1) := by decide +kernel
theorem dL_law_340 : decode cL_law 340 = .ok (.iaload, 1) := by decide +kernel
theorem dL_law_341 : decode cL_law 341 = .ok (.invokevirtual 66, 3) := by decide +kernel
theorem dL_law_344 : decode cL_law 344 = .ok (.if_icmp .eq 681, 3) := by decide +kernel
theorem dL_law_347 : decode cL_law 347 = .ok (.iconst 0, 1) := by decide +kernel
theorem dL_law_348 : decode cL_law 348 = .ok (.ireturn, 1) := by decide +kernel
theorem dL_law_349 : decode cL_law 349 = .ok (.aload_n 1, 1) := by decide +kernel
theorem dL_law_350 : decode cL_law 350 = .ok (.aload_n 0, 1) := by decide +kernel
theorem dL_law_351 : decode cL_law 351 = .ok (.iload 4, 2) := by decide +kernel
theorem dL_law_353 : decode cL_law 353 = .ok (.iconst 1, 1) := by decide +kernel
theorem dL_law_354 : decode cL_law 354 = .ok (.iadd, 1) := by decide +kernel
theorem dL_law_355 : decode cL_law 355 = .ok (.iaload, 1) := by decide +kernel
theorem dL_law_356 : decode cL_law 356 = .ok (.aload_n 3, 1) := by decide +kernel
theorem dL_law_357 : decode cL_law 357 = .ok (.invokestatic 67, 3) := by decide +kernel
theorem dL_law_360 : decode cL_law 360 = .ok (.istore 5, 2) := by decide +kernel
theorem dL_law_362 : decode cL_law 362 = .ok (.aload_n 2, 1) := by decide +kernel
theorem dL_law_363 : decode cL_law 363 = .ok (.aload_n 0, 1) := by decide +kernel
theorem dL_law_364 : decode cL_law 364 = .ok (.iload 4, 2) := by decide +kernel
theorem dL_law_366 : decode cL_law 366 = .ok (.iconst 1, 1) := by decide +kernel
theorem dL_law_367 : decode cL_law 367 = .ok (.iadd, 1) := by decide +kernel
theorem dL_law_368 : decode cL_law 368 = .ok (.iaload, 1) := by decide +kernel
theorem dL_law_369 : decode cL_law 369 = .ok (.invokevirtual 70, 3) := by decide +kernel
theorem dL_law_372 : decode cL_law 372 = .ok (.istore 6, 2) := by decide +kernel
theorem dL_law_374 : decode cL_law 374 = .ok (.aload_n 2, 1) := by decide +kernel
theorem dL_law_375 : decode cL_law 375 = .ok (.invokevirtual 60, 3) := by decide +kernel
theorem dL_law_378 : decode cL_law 378 = .ok (.iload 5, 2) := by decide +kernel
theorem dL_law_380 : decode cL_law 380 = .ok (.if_icmp .eq 5, 3) := by decide +kernel
theorem dL_law_383 : decode cL_law 383 = .ok (.iconst 0, 1) := by decide +kernel
theorem dL_law_384 : decode cL_law 384 = .ok (.ireturn, 1) := by decide +kernel
theorem dL_law_385 : decode cL_law 385 = .ok (.iload 5, 2) := by decide +kernel
theorem dL_law_387 : decode cL_law 387 = .ok (.ifCond .ne 15, 3) := by decide +kernel
theorem dL_law_390 : decode cL_law 390 = .ok (.aload_n 3, 1) := by decide +kernel
theorem dL_law_391 : decode cL_law 391 = .ok (.iconst 0, 1) := by decide +kernel
theorem dL_law_392 : decode cL_law 392 = .ok (.laload, 1) := by decide +kernel
theorem dL_law_393 : decode cL_law 393 = .ok (.iload 6, 2) := by decide +kernel
theorem dL_law_395 : decode cL_law 395 = .ok (.i2l, 1) := by decide +kernel
theorem dL_law_396 : decode cL_law 396 = .ok (.lcmp, 1) := by decide +kernel
theorem dL_law_397 : decode cL_law 397 = .ok (.ifCond .eq 5, 3) := by decide +kernel
theorem dL_law_400 : decode cL_law 400 = .ok (.iconst 0, 1) := by decide +kernel
theorem dL_law_401 : decode cL_law 401 = .ok (.ireturn, 1) := by decide +kernel
theorem dL_law_402 : decode cL_law 402 = .ok (.goto 623, 3) := by decide +kernel
theorem dL_law_405 : decode cL_law 405 = .ok (.aload_n 1, 1) := by decide +kernel
theorem dL_law_406 : decode cL_law 406 = .ok (.aload_n 0, 1) := by decide +kernel
theorem dL_law_407 : decode cL_law 407 = .ok (.iload 4, 2) := by decide +kernel
theorem dL_law_409 : decode cL_law 409 = .ok (.iconst 1, 1) := by decide +kernel
theorem dL_law_410 : decode cL_law 410 = .ok (.iadd, 1) := by decide +kernel
theorem dL_law_411 : decode cL_law 411 = .ok (.iaload, 1) := by decide +kernel
theorem dL_law_412 : decode cL_law 412 = .ok (.aload_n 0, 1) := by decide +kernel
theorem dL_law_413 : decode cL_law 413 = .ok (.iload 4, 2) := by decide +kernel
theorem dL_law_415 : decode cL_law 415 = .ok (.iconst 2, 1) := by decide +kernel
theorem dL_law_416 : decode cL_law 416 = .ok (.iadd, 1) := by decide +kernel
theorem dL_law_417 : decode cL_law 417 = .ok (.iaload, 1) := by decide +kernel
theorem dL_law_418 : decode cL_law 418 = .ok (.aload_n 0, 1) := by decide +kernel
theorem dL_law_419 : decode cL_law 419 = .ok (.iload 4, 2) := by decide +kernel
theorem dL_law_421 : decode cL_law 421 = .ok (.iconst 3, 1) := by decide +kernel
theorem dL_law_422 : decode cL_law 422 = .ok (.iadd, 1) := by decide +kernel
theorem dL_law_423 : decode cL_law 423 = .ok (.iaload, 1) := by decide +kernel
theorem dL_law_424 : decode cL_law 424 = .ok (.invokevirtual 71, 3) := by decide +kernel
theorem dL_law_427 : decode cL_law 427 = .ok (.aload_n 2, 1) := by decide +kernel
theorem dL_law_428 : decode cL_law 428 = .ok (.aload_n 0, 1) := by decide +kernel
theorem dL_law_429 : decode cL_law 429 = .ok (.iload 4, 2) := by decide +kernel
theorem dL_law_431 : decode cL_law 431 = .ok (.iconst 1, 1) := by decide +kernel
theorem dL_law_432 : decode cL_law 432 = .ok (.iadd, 1) := by decide +kernel
theorem dL_law_433 : decode cL_law 433 = .ok (.iaload, 1) := by decide +kernel
theorem dL_law_434 : decode cL_law 434 = .ok (.aload_n 0, 1) := by decide +kernel
theorem dL_law_435 : decode cL_law 435 = .ok (.iload 4, 2) := by decide +kernel
theorem dL_law_437 : decode cL_law 437 = .ok (.iconst 2, 1) := by decide +kernel
theorem dL_law_438 : decode cL_law 438 = .ok (.iadd, 1) := by decide +kernel
theorem dL_law_439 : decode cL_law 439 = .ok (.iaload, 1) := by decide +kernel
theorem dL_law_440 : decode cL_law 440 = .ok (.aload_n 0, 1) := by decide +kernel
theorem dL_law_441 : decode cL_law 441 = .ok (.iload 4, 2) := by decide +kernel
theorem dL_law_443 : decode cL_law 443 = .ok (.iconst 3, 1) := by decide +kernel
theorem dL_law_444 : decode cL_law 444 = .ok (.iadd, 1) := by decide +kernel
theorem dL_law_445 : decode cL_law 445 = .ok (.iaload, 1) := by decide +kernel
theorem dL_law_446 : decode cL_law 446 = .ok (.invokevirtual 75, 3) := by decide +kernel
theorem dL_law_449 : decode cL_law 449 = .ok (.if_icmp .eq 576, 3) := by decide +kernel
theorem dL_law_452 : decode cL_law 452 = .ok (.iconst 0, 1) := by decide +kernel
theorem dL_law_453 : decode cL_law 453 = .ok (.ireturn, 1) := by decide +kernel
theorem dL_law_454 : decode cL_law 454 = .ok (.aload_n 1, 1) := by decide +kernel
theorem dL_law_455 : decode cL_law 455 = .ok (.aload_n 0, 1) := by decide +kernel
theorem dL_law_456 : decode cL_law 456 = .ok (.iload 4, 2) := by decide +kernel
theorem dL_law_458 : decode cL_law 458 = .ok (.iconst 1, 1) := by decide +kernel
theorem dL_law_459 : decode cL_law 459 = .ok (.iadd, 1) := by decide +kernel
theorem dL_law_460 : decode cL_law 460 = .ok (.iaload, 1) := by decide +kernel
theorem dL_law_461 : decode cL_law 461 = .ok (.aload_n 0, 1) := by decide +kernel
theorem dL_law_462 : decode cL_law 462 = .ok (.iload 4, 2) := by decide +kernel
theorem dL_law_464 : decode cL_law 464 = .ok (.iconst 2, 1) := by decide +kernel
theorem dL_law_465 : decode cL_law 465 = .ok (.iadd, 1) := by decide +kernel
theorem dL_law_466 : decode cL_law 466 = .ok (.iaload, 1) := by decide +kernel
theorem dL_law_467 : decode cL_law 467 = .ok (.aload_n 0, 1) := by decide +kernel
theorem dL_law_468 : decode cL_law 468 = .ok (.iload 4, 2) := by decide +kernel
theorem dL_law_470 : decode cL_law 470 = .ok (.iconst 3, 1) := by decide +kernel
theorem dL_law_471 : decode cL_law 471 = .ok (.iadd, 1) := by decide +kernel
theorem dL_law_472 : decode cL_law 472 = .ok (.iaload, 1) := by decide +kernel
theorem dL_law_473 : decode cL_law 473 = .ok (.invokevirtual 76, 3) := by decide +kernel
theorem dL_law_476 : decode cL_law 476 = .ok (.aload_n 2, 1) := by decide +kernel
theorem dL_law_477 : decode cL_law 477 = .ok (.aload_n 0, 1) := by decide +kernel
theorem dL_law_478 : decode cL_law 478 = .ok (.iload 4, 2) := by decide +kernel
theorem dL_law_480 : decode cL_law 480 = .ok (.iconst 1, 1) := by decide +kernel
theorem dL_law_481 : decode cL_law 481 = .ok (.iadd, 1) := by decide +kernel
theorem dL_law_482 : decode cL_law 482 = .ok (.iaload, 1) := by decide +kernel
theorem dL_law_483 : decode cL_law 483 = .ok (.aload_n 0, 1) := by decide +kernel
theorem dL_law_484 : decode cL_law 484 = .ok (.iload 4, 2) := by decide +kernel
theorem dL_law_486 : decode cL_law 486 = .ok (.iconst 2, 1) := by decide +kernel
theorem dL_law_487 : decode cL_law 487 = .ok (.iadd, 1) := by decide +kernel
theorem dL_law_488 : decode cL_law 488 = .ok (.iaload, 1) := by decide +kernel
theorem dL_law_489 : decode cL_law 489 = .ok (.aload_n 0, 1) := by decide +kernel
theorem dL_law_490 : decode cL_law 490 = .ok (.iload 4, 2) := by decide +kernel
theorem dL_law_492 : decode cL_law 492 = .ok (.iconst 3, 1) := by decide +kernel
theorem dL_law_493 : decode cL_law 493 = .ok (.iadd, 1) := by decide +kernel
theorem dL_law_494 : decode cL_law 494 = .ok (.iaload, 1) := by decide +kernel
theorem dL_law_495 : decode cL_law 495 = .ok (.invokevirtual 79, 3) := by decide +kernel
theorem dL_law_498 : decode cL_law 498 = .ok (.if_icmp .eq 527, 3) := by decide +kernel
theorem dL_law_501 : decode cL_law 501 = .ok (.iconst 0, 1) := by decide +kernel
theorem dL_law_502 : decode cL_law 502 = .ok (.ireturn, 1) := by decide +kernel
theorem dL_law_503 : decode cL_law 503 = .ok (.aload_n 1, 1) := by decide +kernel
theorem dL_law_504 : decode cL_law 504 = .ok (.aload_n 0, 1) := by decide +kernel
theorem dL_law_505 : decode cL_law 505 = .ok (.iload 4, 2) := by decide +kernel
theorem dL_law_507 : decode cL_law 507 = .ok (.iconst 1, 1) := by decide +kernel
theorem dL_law_508 : decode cL_law 508 = .ok (.iadd, 1) := by decide +kernel
theorem dL_law_509 : decode cL_law 509 = .ok (.iaload, 1) := by decide +kernel
theorem dL_law_510 : decode cL_law 510 = .ok (.invokevirtual 80, 3) := by decide +kernel
theorem dL_law_513 : decode cL_law 513 = .ok (.aload_n 2, 1) := by decide +kernel
theorem dL_law_514 : decode cL_law 514 = .ok (.aload_n 0, 1) := by decide +kernel
theorem dL_law_515 : decode cL_law 515 = .ok (.iload 4, 2) := by decide +kernel
theorem dL_law_517 : decode cL_law 517 = .ok (.iconst 1, 1) := by decide +kernel
theorem dL_law_518 : decode cL_law 518 = .ok (.iadd, 1) := by decide +kernel
theorem dL_law_519 : decode cL_law 519 = .ok (.iaload, 1) := by decide +kernel
theorem dL_law_520 : decode cL_law 520 = .ok (.invokevirtual 83, 3) := by decide +kernel
theorem dL_law_523 : decode cL_law 523 = .ok (.if_icmp .eq 502, 3) := by decide +kernel
theorem dL_law_526 : decode cL_law 526 = .ok (.iconst 0, 1) := by decide +kernel
theorem dL_law_527 : decode cL_law 527 = .ok (.ireturn, 1) := by decide +kernel
theorem dL_law_528 : decode cL_law 528 = .ok (.aload_n 1, 1) := by decide +kernel
theorem dL_law_529 : decode cL_law 529 = .ok (.aload_n 0, 1) := by decide +kernel
theorem dL_law_530 : decode cL_law 530 = .ok (.iload 4, 2) := by decide +kernel
theorem dL_law_532 : decode cL_law 532 = .ok (.iconst 1, 1) := by decide +kernel
theorem dL_law_533 : decode cL_law 533 = .ok (.iadd, 1) := by decide +kernel
theorem dL_law_534 : decode cL_law 534 = .ok (.iaload, 1) := by decide +kernel
theorem dL_law_535 : decode cL_law 535 = .ok (.aload_n 0, 1) := by decide +kernel
theorem dL_law_536 : decode cL_law 536 = .ok (.iload 4, 2) := by decide +kernel
theorem dL_law_538 : decode cL_law 538 = .ok (.iconst 2, 1) := by decide +kernel
theorem dL_law_539 : decode cL_law 539 = .ok (.iadd, 1) := by decide +kernel
theorem dL_law_540 : decode cL_law 540 = .ok (.iaload, 1) := by decide +kernel
theorem dL_law_541 : decode cL_law 541 = .ok (.aload_n 0, 1) := by decide +kernel
theorem dL_law_542 : decode cL_law 542 = .ok (.iload 4, 2) := by decide +kernel
theorem dL_law_544 : decode cL_law 544 = .ok (.iconst 3, 1) := by decide +kernel
theorem dL_law_545 : decode cL_law 545 = .ok (.iadd, 1) := by decide +kernel
theorem dL_law_546 : decode cL_law 546 = .ok (.iaload, 1) := by decide +kernel
theorem dL_law_547 : decode cL_law 547 = .ok (.aload_n 0, 1) := by decide +kernel
theorem dL_law_548 : decode cL_law 548 = .ok (.iload 4, 2) := by decide +kernel
theorem dL_law_550 : decode cL_law 550 = .ok (.iconst 4, 1) := by decide +kernel
theorem dL_law_551 : decode cL_law 551 = .ok (.iadd, 1) := by decide +kernel
theorem dL_law_552 : decode cL_law 552 = .ok (.iaload, 1) := by decide +kernel
theorem dL_law_553 : decode cL_law 553 = .ok (.aload_n 3, 1) := by decide +kernel
theorem dL_law_554 : decode cL_law 554 = .ok (.invokestatic 84, 3) := by decide +kernel
theorem dL_law_557 : decode cL_law 557 = .ok (.istore 5, 2) := by decide +kernel
theorem dL_law_559 : decode cL_law 559 = .ok (.aload_n 2, 1) := by decide +kernel
theorem dL_law_560 : decode cL_law 560 = .ok (.aload_n 0, 1) := by decide +kernel
theorem dL_law_561 : decode cL_law 561 = .ok (.iload 4, 2) := by decide +kernel
theorem dL_law_563 : decode cL_law 563 = .ok (.iconst 1, 1) := by decide +kernel
theorem dL_law_564 : decode cL_law 564 = .ok (.iadd, 1) := by decide +kernel
theorem dL_law_565 : decode cL_law 565 = .ok (.iaload, 1) := by decide +kernel
theorem dL_law_566 : decode cL_law 566 = .ok (.aload_n 0, 1) := by decide +kernel
theorem dL_law_567 : decode cL_law 567 = .ok (.iload 4, 2) := by decide +kernel
theorem dL_law_569 : decode cL_law 569 = .ok (.iconst 2, 1) := by decide +kernel
theorem dL_law_570 : decode cL_law 570 = .ok (.iadd, 1) := by decide +kernel
theorem dL_law_571 : decode cL_law 571 = .ok (.iaload, 1) := by decide +kernel
theorem dL_law_572 : decode cL_law 572 = .ok (.aload_n 0, 1) := by decide +kernel
theorem dL_law_573 : decode cL_law 573 = .ok (.iload 4, 2) := by decide +kernel
theorem dL_law_575 : decode cL_law 575 = .ok (.iconst 3, 1) := by decide +kernel
theorem dL_law_576 : decode cL_law 576 = .ok (.iadd, 1) := by decide +kernel
theorem dL_law_577 : decode cL_law 577 = .ok (.iaload, 1) := by decide +kernel
theorem dL_law_578 : decode cL_law 578 = .ok (.aload_n 0, 1) := by decide +kernel
theorem dL_law_579 : decode cL_law 579 = .ok (.iload 4, 2) := by decide +kernel
theorem dL_law_581 : decode cL_law 581 = .ok (.iconst 4, 1) := by decide +kernel
theorem dL_law_582 : decode cL_law 582 = .ok (.iadd, 1) := by decide +kernel
theorem dL_law_583 : decode cL_law 583 = .ok (.iaload, 1) := by decide +kernel
theorem dL_law_584 : decode cL_law 584 = .ok (.invokevirtual 87, 3) := by decide +kernel
theorem dL_law_587 : decode cL_law 587 = .ok (.lstore 6, 2) := by decide +kernel
theorem dL_law_589 : decode cL_law 589 = .ok (.aload_n 2, 1) := by decide +kernel
theorem dL_law_590 : decode cL_law 590 = .ok (.invokevirtual 60, 3) := by decide +kernel
theorem dL_law_593 : decode cL_law 593 = .ok (.iload 5, 2) := by decide +kernel
theorem dL_law_595 : decode cL_law 595 = .ok (.if_icmp .eq 5, 3) := by decide +kernel
theorem dL_law_598 : decode cL_law 598 = .ok (.iconst 0, 1) := by decide +kernel
theorem dL_law_599 : decode cL_law 599 = .ok (.ireturn, 1) := by decide +kernel
theorem dL_law_600 : decode cL_law 600 = .ok (.iload 5, 2) := by decide +kernel
theorem dL_law_602 : decode cL_law 602 = .ok (.ifCond .ne 14, 3) := by decide +kernel
theorem dL_law_605 : decode cL_law 605 = .ok (.aload_n 3, 1) := by decide +kernel
theorem dL_law_606 : decode cL_law 606 = .ok (.iconst 0, 1) := by decide +kernel
theorem dL_law_607 : decode cL_law 607 = .ok (.laload, 1) := by decide +kernel
theorem dL_law_608 : decode cL_law 608 = .ok (.lload 6, 2) := by decide +kernel
theorem dL_law_610 : decode cL_law 610 = .ok (.lcmp, 1) := by decide +kernel
theorem dL_law_611 : decode cL_law 611 = .ok (.ifCond .eq 5, 3) := by decide +kernel
theorem dL_law_614 : decode cL_law 614 = .ok (.iconst 0, 1) := by decide +kernel
theorem dL_law_615 : decode cL_law 615 = .ok (.ireturn, 1) := by decide +kernel
theorem dL_law_616 : decode cL_law 616 = .ok (.goto 409, 3) := by decide +kernel
theorem dL_law_619 : decode cL_law 619 = .ok (.aload_n 1, 1) := by decide +kernel
theorem dL_law_620 : decode cL_law 620 = .ok (.aload_n 0, 1) := by decide +kernel
theorem dL_law_621 : decode cL_law 621 = .ok (.iload 4, 2) := by decide +kernel
theorem dL_law_623 : decode cL_law 623 = .ok (.iconst 1, 1) := by decide +kernel
theorem dL_law_624 : decode cL_law 624 = .ok (.iadd, 1) := by decide +kernel
theorem dL_law_625 : decode cL_law 625 = .ok (.iaload, 1) := by decide +kernel
theorem dL_law_626 : decode cL_law 626 = .ok (.aload_n 0, 1) := by decide +kernel
theorem dL_law_627 : decode cL_law 627 = .ok (.iload 4, 2) := by decide +kernel
theorem dL_law_629 : decode cL_law 629 = .ok (.iconst 2, 1) := by decide +kernel
theorem dL_law_630 : decode cL_law 630 = .ok (.iadd, 1) := by decide +kernel
theorem dL_law_631 : decode cL_law 631 = .ok (.iaload, 1) := by decide +kernel
theorem dL_law_632 : decode cL_law 632 = .ok (.aload_n 0, 1) := by decide +kernel
theorem dL_law_633 : decode cL_law 633 = .ok (.iload 4, 2) := by decide +kernel
theorem dL_law_635 : decode cL_law 635 = .ok (.iconst 3, 1) := by decide +kernel
theorem dL_law_636 : decode cL_law 636 = .ok (.iadd, 1) := by decide +kernel
theorem dL_law_637 : decode cL_law 637 = .ok (.iaload, 1) := by decide +kernel
theorem dL_law_638 : decode cL_law 638 = .ok (.aload_n 0, 1) := by decide +kernel
theorem dL_law_639 : decode cL_law 639 = .ok (.iload 4, 2) := by decide +kernel
theorem dL_law_641 : decode cL_law 641 = .ok (.iconst 4, 1) := by decide +kernel
theorem dL_law_642 : decode cL_law 642 = .ok (.iadd, 1) := by decide +kernel
theorem dL_law_643 : decode cL_law 643 = .ok (.iaload, 1) := by decide +kernel
theorem dL_law_644 : decode cL_law 644 = .ok (.i2l, 1) := by decide +kernel
theorem dL_law_645 : decode cL_law 645 = .ok (.bipush 32, 2) := by decide +kernel
theorem dL_law_647 : decode cL_law 647 = .ok (.lshl, 1) := by decide +kernel
theorem dL_law_648 : decode cL_law 648 = .ok (.aload_n 0, 1) := by decide +kernel
theorem dL_law_649 : decode cL_law 649 = .ok (.iload 4, 2) := by decide +kernel
theorem dL_law_651 : decode cL_law 651 = .ok (.iconst 5, 1) := by decide +kernel
theorem dL_law_652 : decode cL_law 652 = .ok (.iadd, 1) := by decide +kernel
theorem dL_law_653 : decode cL_law 653 = .ok (.iaload, 1) := by decide +kernel
theorem dL_law_654 : decode cL_law 654 = .ok (.i2l, 1) := by decide +kernel
theorem dL_law_655 : decode cL_law 655 = .ok (.ldc2_w 88, 3) := by decide +kernel
theorem dL_law_658 : decode cL_law 658 = .ok (.land, 1) := by decide +kernel
theorem dL_law_659 : decode cL_law 659 = .ok (.lor, 1) := by decide +kernel
theorem dL_law_660 : decode cL_law 660 = .ok (.aload_n 3, 1) := by decide +kernel
theorem dL_law_661 : decode cL_law 661 = .ok (.invokestatic 90, 3) := by decide +kernel
theorem dL_law_664 : decode cL_law 664 = .ok (.istore 5, 2) := by decide +kernel
theorem dL_law_666 : decode cL_law 666 = .ok (.aload_n 2, 1) := by decide +kernel
theorem dL_law_667 : decode cL_law 667 = .ok (.aload_n 0, 1) := by decide +kernel
theorem dL_law_668 : decode cL_law 668 = .ok (.iload 4, 2) := by decide +kernel
theorem dL_law_670 : decode cL_law 670 = .ok (.iconst 1, 1) := by decide +kernel
theorem dL_law_671 : decode cL_law 671 = .ok (.iadd, 1) := by decide +kernel
theorem dL_law_672 : decode cL_law 672 = .ok (.iaload, 1) := by decide +kernel
theorem dL_law_673 : decode cL_law 673 = .ok (.aload_n 0, 1) := by decide +kernel
theorem dL_law_674 : decode cL_law 674 = .ok (.iload 4, 2) := by decide +kernel
theorem dL_law_676 : decode cL_law 676 = .ok (.iconst 2, 1) := by decide +kernel
theorem dL_law_677 : decode cL_law 677 = .ok (.iadd, 1) := by decide +kernel
theorem dL_law_678 : decode cL_law 678 = .ok (.iaload, 1) := by decide +kernel
theorem dL_law_679 : decode cL_law 679 = .ok (.aload_n 0, 1) := by decide +kernel
theorem dL_law_680 : decode cL_law 680 = .ok (.iload 4, 2) := by decide +kernel
theorem dL_law_682 : decode cL_law 682 = .ok (.iconst 3, 1) := by decide +kernel
theorem dL_law_683 : decode cL_law 683 = .ok (.iadd, 1) := by decide +kernel
theorem dL_law_684 : decode cL_law 684 = .ok (.iaload, 1) := by decide +kernel
theorem dL_law_685 : decode cL_law 685 = .ok (.aload_n 0, 1) := by decide +kernel
theorem dL_law_686 : decode cL_law 686 = .ok (.iload 4, 2) := by decide +kernel
theorem dL_law_688 : decode cL_law 688 = .ok (.iconst 4, 1) := by decide +kernel
theorem dL_law_689 : decode cL_law 689 = .ok (.iadd, 1) := by decide +kernel
theorem dL_law_690 : decode cL_law 690 = .ok (.iaload, 1) := by decide +kernel
theorem dL_law_691 : decode cL_law 691 = .ok (.i2l, 1) := by decide +kernel
theorem dL_law_692 : decode cL_law 692 = .ok (.bipush 32, 2) := by decide +kernel
theorem dL_law_694 : decode cL_law 694 = .ok (.lshl, 1) := by decide +kernel
theorem dL_law_695 : decode cL_law 695 = .ok (.aload_n 0, 1) := by decide +kernel
theorem dL_law_696 : decode cL_law 696 = .ok (.iload 4, 2) := by decide +kernel
theorem dL_law_698 : decode cL_law 698 = .ok (.iconst 5, 1) := by decide +kernel
theorem dL_law_699 : decode cL_law 699 = .ok (.iadd, 1) := by decide +kernel
theorem dL_law_700 : decode cL_law 700 = .ok (.iaload, 1) := by decide +kernel
theorem dL_law_701 : decode cL_law 701 = .ok (.i2l, 1) := by decide +kernel
theorem dL_law_702 : decode cL_law 702 = .ok (.ldc2_w 88, 3) := by decide +kernel
theorem dL_law_705 : decode cL_law 705 = .ok (.land, 1) := by decide +kernel
theorem dL_law_706 : decode cL_law 706 = .ok (.lor, 1) := by decide +kernel
theorem dL_law_707 : decode cL_law 707 = .ok (.invokevirtual 93, 3) := by decide +kernel
theorem dL_law_710 : decode cL_law 710 = .ok (.lstore 6, 2) := by decide +kernel
theorem dL_law_712 : decode cL_law 712 = .ok (.aload_n 2, 1) := by decide +kernel
theorem dL_law_713 : decode cL_law 713 = .ok (.invokevirtual 60, 3) := by decide +kernel
theorem dL_law_716 : decode cL_law 716 = .ok (.iload 5, 2) := by decide +kernel
theorem dL_law_718 : decode cL_law 718 = .ok (.if_icmp .eq 5, 3) := by decide +kernel
theorem dL_law_721 : decode cL_law 721 = .ok (.iconst 0, 1) := by decide +kernel
theorem dL_law_722 : decode cL_law 722 = .ok (.ireturn, 1) := by decide +kernel
theorem dL_law_723 : decode cL_law 723 = .ok (.iload 5, 2) := by decide +kernel
theorem dL_law_725 : decode cL_law 725 = .ok (.ifCond .ne 14, 3) := by decide +kernel
theorem dL_law_728 : decode cL_law 728 = .ok (.aload_n 3, 1) := by decide +kernel
theorem dL_law_729 : decode cL_law 729 = .ok (.iconst 0, 1) := by decide +kernel
theorem dL_law_730 : decode cL_law 730 = .ok (.laload, 1) := by decide +kernel
theorem dL_law_731 : decode cL_law 731 = .ok (.lload 6, 2) := by decide +kernel
theorem dL_law_733 : decode cL_law 733 = .ok (.lcmp, 1) := by decide +kernel
theorem dL_law_734 : decode cL_law 734 = .ok (.ifCond .eq 5, 3) := by decide +kernel
theorem dL_law_737 : decode cL_law 737 = .ok (.iconst 0, 1) := by decide +kernel
theorem dL_law_738 : decode cL_law 738 = .ok (.ireturn, 1) := by decide +kernel
theorem dL_law_739 : decode cL_law 739 = .ok (.goto 286, 3) := by decide +kernel
theorem dL_law_742 : decode cL_law 742 = .ok (.aload_n 1, 1) := by decide +kernel
theorem dL_law_743 : decode cL_law 743 = .ok (.aload_n 0, 1) := by decide +kernel
theorem dL_law_744 : decode cL_law 744 = .ok (.iload 4, 2) := by decide +kernel
theorem dL_law_746 : decode cL_law 746 = .ok (.iconst 1, 1) := by decide +kernel
theorem dL_law_747 : decode cL_law 747 = .ok (.iadd, 1) := by decide +kernel
theorem dL_law_748 : decode cL_law 748 = .ok (.iaload, 1) := by decide +kernel
theorem dL_law_749 : decode cL_law 749 = .ok (.aload_n 0, 1) := by decide +kernel
theorem dL_law_750 : decode cL_law 750 = .ok (.iload 4, 2) := by decide +kernel
theorem dL_law_752 : decode cL_law 752 = .ok (.iconst 2, 1) := by decide +kernel
theorem dL_law_753 : decode cL_law 753 = .ok (.iadd, 1) := by decide +kernel
theorem dL_law_754 : decode cL_law 754 = .ok (.iaload, 1) := by decide +kernel
theorem dL_law_755 : decode cL_law 755 = .ok (.aload_n 0, 1) := by decide +kernel
theorem dL_law_756 : decode cL_law 756 = .ok (.iload 4, 2) := by decide +kernel
theorem dL_law_758 : decode cL_law 758 = .ok (.iconst 3, 1) := by decide +kernel
theorem dL_law_759 : decode cL_law 759 = .ok (.iadd, 1) := by decide +kernel
theorem dL_law_760 : decode cL_law 760 = .ok (.iaload, 1) := by decide +kernel
theorem dL_law_761 : decode cL_law 761 = .ok (.invokevirtual 94, 3) := by decide +kernel
theorem dL_law_764 : decode cL_law 764 = .ok (.aload_n 2, 1) := by decide +kernel
theorem dL_law_765 : decode cL_law 765 = .ok (.aload_n 0, 1) := by decide +kernel
theorem dL_law_766 : decode cL_law 766 = .ok (.iload 4, 2) := by decide +kernel
theorem dL_law_768 : decode cL_law 768 = .ok (.iconst 1, 1) := by decide +kernel
theorem dL_law_769 : decode cL_law 769 = .ok (.iadd, 1) := by decide +kernel
theorem dL_law_770 : decode cL_law 770 = .ok (.iaload, 1) := by decide +kernel
theorem dL_law_771 : decode cL_law 771 = .ok (.aload_n 0, 1) := by decide +kernel
theorem dL_law_772 : decode cL_law 772 = .ok (.iload 4, 2) := by decide +kernel
theorem dL_law_774 : decode cL_law 774 = .ok (.iconst 2, 1) := by decide +kernel
theorem dL_law_775 : decode cL_law 775 = .ok (.iadd, 1) := by decide +kernel
theorem dL_law_776 : decode cL_law 776 = .ok (.iaload, 1) := by decide +kernel
theorem dL_law_777 : decode cL_law 777 = .ok (.aload_n 0, 1) := by decide +kernel
theorem dL_law_778 : decode cL_law 778 = .ok (.iload 4, 2) := by decide +kernel
theorem dL_law_780 : decode cL_law 780 = .ok (.iconst 3, 1) := by decide +kernel
theorem dL_law_781 : decode cL_law 781 = .ok (.iadd, 1) := by decide +kernel
theorem dL_law_782 : decode cL_law 782 = .ok (.iaload, 1) := by decide +kernel
theorem dL_law_783 : decode cL_law 783 = .ok (.invokevirtual 98, 3) := by decide +kernel
theorem dL_law_786 : decode cL_law 786 = .ok (.lcmp, 1) := by decide +kernel
theorem dL_law_787 : decode cL_law 787 = .ok (.ifCond .eq 238, 3) := by decide +kernel
theorem dL_law_790 : decode cL_law 790 = .ok (.iconst 0, 1) := by decide +kernel
theorem dL_law_791 : decode cL_law 791 = .ok (.ireturn, 1) := by decide +kernel
theorem dL_law_792 : decode cL_law 792 = .ok (.aload_n 1, 1) := by decide +kernel
theorem dL_law_793 : decode cL_law 793 = .ok (.aload_n 0, 1) := by decide +kernel
theorem dL_law_794 : decode cL_law 794 = .ok (.iload 4, 2) := by decide +kernel
theorem dL_law_796 : decode cL_law 796 = .ok (.iconst 1, 1) := by decide +kernel
theorem dL_law_797 : decode cL_law 797 = .ok (.iadd, 1) := by decide +kernel
theorem dL_law_798 : decode cL_law 798 = .ok (.iaload, 1) := by decide +kernel
theorem dL_law_799 : decode cL_law 799 = .ok (.invokevirtual 99, 3) := by decide +kernel
theorem dL_law_802 : decode cL_law 802 = .ok (.aload_n 2, 1) := by decide +kernel
theorem dL_law_803 : decode cL_law 803 = .ok (.aload_n 0, 1) := by decide +kernel
theorem dL_law_804 : decode cL_law 804 = .ok (.iload 4, 2) := by decide +kernel
theorem dL_law_806 : decode cL_law 806 = .ok (.iconst 1, 1) := by decide +kernel
theorem dL_law_807 : decode cL_law 807 = .ok (.iadd, 1) := by decide +kernel
theorem dL_law_808 : decode cL_law 808 = .ok (.iaload, 1) := by decide +kernel
theorem dL_law_809 : decode cL_law 809 = .ok (.invokevirtual 102, 3) := by decide +kernel
theorem dL_law_812 : decode cL_law 812 = .ok (.if_icmp .eq 213, 3) := by decide +kernel
theorem dL_law_815 : decode cL_law 815 = .ok (.iconst 0, 1) := by decide +kernel
theorem dL_law_816 : decode cL_law 816 = .ok (.ireturn, 1) := by decide +kernel
theorem dL_law_817 : decode cL_law 817 = .ok (.aload_n 1, 1) := by decide +kernel
theorem dL_law_818 : decode cL_law 818 = .ok (.invokevirtual 103, 3) := by decide +kernel
theorem dL_law_821 : decode cL_law 821 = .ok (.aload_n 2, 1) := by decide +kernel
theorem dL_law_822 : decode cL_law 822 = .ok (.invokevirtual 107, 3) := by decide +kernel
theorem dL_law_825 : decode cL_law 825 = .ok (.lcmp, 1) := by decide +kernel
theorem dL_law_826 : decode cL_law 826 = .ok (.ifCond .eq 199, 3) := by decide +kernel
theorem dL_law_829 : decode cL_law 829 = .ok (.iconst 0, 1) := by decide +kernel
theorem dL_law_830 : decode cL_law 830 = .ok (.ireturn, 1) := by decide +kernel
theorem dL_law_831 : decode cL_law 831 = .ok (.aload_n 1, 1) := by decide +kernel
theorem dL_law_832 : decode cL_law 832 = .ok (.aload_n 0, 1) := by decide +kernel
theorem dL_law_833 : decode cL_law 833 = .ok (.iload 4, 2) := by decide +kernel
theorem dL_law_835 : decode cL_law 835 = .ok (.iconst 1, 1) := by decide +kernel
theorem dL_law_836 : decode cL_law 836 = .ok (.iadd, 1) := by decide +kernel
theorem dL_law_837 : decode cL_law 837 = .ok (.iaload, 1) := by decide +kernel
theorem dL_law_838 : decode cL_law 838 = .ok (.invokevirtual 108, 3) := by decide +kernel
theorem dL_law_841 : decode cL_law 841 = .ok (.aload_n 2, 1) := by decide +kernel
theorem dL_law_842 : decode cL_law 842 = .ok (.aload_n 0, 1) := by decide +kernel
theorem dL_law_843 : decode cL_law 843 = .ok (.iload 4, 2) := by decide +kernel
theorem dL_law_845 : decode cL_law 845 = .ok (.iconst 1, 1) := by decide +kernel
theorem dL_law_846 : decode cL_law 846 = .ok (.iadd, 1) := by decide +kernel
theorem dL_law_847 : decode cL_law 847 = .ok (.iaload, 1) := by decide +kernel
theorem dL_law_848 : decode cL_law 848 = .ok (.invokevirtual 111, 3) := by decide +kernel
theorem dL_law_851 : decode cL_law 851 = .ok (.if_icmp .eq 174, 3) := by decide +kernel
theorem dL_law_854 : decode cL_law 854 = .ok (.iconst 0, 1) := by decide +kernel
theorem dL_law_855 : decode cL_law 855 = .ok (.ireturn, 1) := by decide +kernel
theorem dL_law_856 : decode cL_law 856 = .ok (.aload_n 1, 1) := by decide +kernel
theorem dL_law_857 : decode cL_law 857 = .ok (.aload_n 0, 1) := by decide +kernel
theorem dL_law_858 : decode cL_law 858 = .ok (.iload 4, 2) := by decide +kernel
theorem dL_law_860 : decode cL_law 860 = .ok (.iconst 1, 1) := by decide +kernel
theorem dL_law_861 : decode cL_law 861 = .ok (.iadd, 1) := by decide +kernel
theorem dL_law_862 : decode cL_law 862 = .ok (.iaload, 1) := by decide +kernel
theorem dL_law_863 : decode cL_law 863 = .ok (.aload_n 0, 1) := by decide +kernel
theorem dL_law_864 : decode cL_law 864 = .ok (.iload 4, 2) := by decide +kernel
theorem dL_law_866 : decode cL_law 866 = .ok (.iconst 2, 1) := by decide +kernel
theorem dL_law_867 : decode cL_law 867 = .ok (.iadd, 1) := by decide +kernel
theorem dL_law_868 : decode cL_law 868 = .ok (.iaload, 1) := by decide +kernel
theorem dL_law_869 : decode cL_law 869 = .ok (.aload_n 0, 1) := by decide +kernel
theorem dL_law_870 : decode cL_law 870 = .ok (.iload 4, 2) := by decide +kernel
theorem dL_law_872 : decode cL_law 872 = .ok (.iconst 3, 1) := by decide +kernel
theorem dL_law_873 : decode cL_law 873 = .ok (.iadd, 1) := by decide +kernel
theorem dL_law_874 : decode cL_law 874 = .ok (.iaload, 1) := by decide +kernel
theorem dL_law_875 : decode cL_law 875 = .ok (.invokevirtual 112, 3) := by decide +kernel
theorem dL_law_878 : decode cL_law 878 = .ok (.aload_n 2, 1) := by decide +kernel
theorem dL_law_879 : decode cL_law 879 = .ok (.aload_n 0, 1) := by decide +kernel
theorem dL_law_880 : decode cL_law 880 = .ok (.iload 4, 2) := by decide +kernel
theorem dL_law_882 : decode cL_law 882 = .ok (.iconst 1, 1) := by decide +kernel
theorem dL_law_883 : decode cL_law 883 = .ok (.iadd, 1) := by decide +kernel
theorem dL_law_884 : decode cL_law 884 = .ok (.iaload, 1) := by decide +kernel
theorem dL_law_885 : decode cL_law 885 = .ok (.aload_n 0, 1) := by decide +kernel
theorem dL_law_886 : decode cL_law 886 = .ok (.iload 4, 2) := by decide +kernel
theorem dL_law_888 : decode cL_law 888 = .ok (.iconst 2, 1) := by decide +kernel
theorem dL_law_889 : decode cL_law 889 = .ok (.iadd, 1) := by decide +kernel
theorem dL_law_890 : decode cL_law 890 = .ok (.iaload, 1) := by decide +kernel
theorem dL_law_891 : decode cL_law 891 = .ok (.aload_n 0, 1) := by decide +kernel
theorem dL_law_892 : decode cL_law 892 = .ok (.iload 4, 2) := by decide +kernel
theorem dL_law_894 : decode cL_law 894 = .ok (.iconst 3, 1) := by decide +kernel
theorem dL_law_895 : decode cL_law 895 = .ok (.iadd, 1) := by decide +kernel
theorem dL_law_896 : decode cL_law 896 = .ok (.iaload, 1) := by decide +kernel
theorem dL_law_897 : decode cL_law 897 = .ok (.invokevirtual 116, 3) := by decide +kernel
theorem dL_law_900 : decode cL_law 900 = .ok (.if_icmp .eq 125, 3) := by decide +kernel
theorem dL_law_903 : decode cL_law 903 = .ok (.iconst 0, 1) := by decide +kernel
theorem dL_law_904 : decode cL_law 904 = .ok (.ireturn, 1) := by decide +kernel
theorem dL_law_905 : decode cL_law 905 = .ok (.aload_n 1, 1) := by decide +kernel
theorem dL_law_906 : decode cL_law 906 = .ok (.aload_n 0, 1) := by decide +kernel
theorem dL_law_907 : decode cL_law 907 = .ok (.iload 4, 2) := by decide +kernel
theorem dL_law_909 : decode cL_law 909 = .ok (.iconst 1, 1) := by decide +kernel
theorem dL_law_910 : decode cL_law 910 = .ok (.iadd, 1) := by decide +kernel
theorem dL_law_911 : decode cL_law 911 = .ok (.iaload, 1) := by decide +kernel
theorem dL_law_912 : decode cL_law 912 = .ok (.aload_n 0, 1) := by decide +kernel
theorem dL_law_913 : decode cL_law 913 = .ok (.iload 4, 2) := by decide +kernel
theorem dL_law_915 : decode cL_law 915 = .ok (.iconst 2, 1) := by decide +kernel
theorem dL_law_916 : decode cL_law 916 = .ok (.iadd, 1) := by decide +kernel
theorem dL_law_917 : decode cL_law 917 = .ok (.iaload, 1) := by decide +kernel
theorem dL_law_918 : decode cL_law 918 = .ok (.aload_n 0, 1) := by decide +kernel
theorem dL_law_919 : decode cL_law 919 = .ok (.iload 4, 2) := by decide +kernel
theorem dL_law_921 : decode cL_law 921 = .ok (.iconst 3, 1) := by decide +kernel
theorem dL_law_922 : decode cL_law 922 = .ok (.iadd, 1) := by decide +kernel
theorem dL_law_923 : decode cL_law 923 = .ok (.iaload, 1) := by decide +kernel
theorem dL_law_924 : decode cL_law 924 = .ok (.ifCond .eq 7, 3) := by decide +kernel
theorem dL_law_927 : decode cL_law 927 = .ok (.iconst 1, 1) := by decide +kernel
theorem dL_law_928 : decode cL_law 928 = .ok (.goto 4, 3) := by decide +kernel
theorem dL_law_931 : decode cL_law 931 = .ok (.iconst 0, 1) := by decide +kernel
theorem dL_law_932 : decode cL_law 932 = .ok (.aload_n 3, 1) := by decide +kernel
theorem dL_law_933 : decode cL_law 933 = .ok (.invokestatic 117, 3) := by decide +kernel
theorem dL_law_936 : decode cL_law 936 = .ok (.istore 5, 2) := by decide +kernel
theorem dL_law_938 : decode cL_law 938 = .ok (.aload_n 2, 1) := by decide +kernel
theorem dL_law_939 : decode cL_law 939 = .ok (.aload_n 0, 1) := by decide +kernel
theorem dL_law_940 : decode cL_law 940 = .ok (.iload 4, 2) := by decide +kernel
theorem dL_law_942 : decode cL_law 942 = .ok (.iconst 1, 1) := by decide +kernel
theorem dL_law_943 : decode cL_law 943 = .ok (.iadd, 1) := by decide +kernel
theorem dL_law_944 : decode cL_law 944 = .ok (.iaload, 1) := by decide +kernel
theorem dL_law_945 : decode cL_law 945 = .ok (.aload_n 0, 1) := by decide +kernel
theorem dL_law_946 : decode cL_law 946 = .ok (.iload 4, 2) := by decide +kernel
theorem dL_law_948 : decode cL_law 948 = .ok (.iconst 2, 1) := by decide +kernel
theorem dL_law_949 : decode cL_law 949 = .ok (.iadd, 1) := by decide +kernel
theorem dL_law_950 : decode cL_law 950 = .ok (.iaload, 1) := by decide +kernel
theorem dL_law_951 : decode cL_law 951 = .ok (.aload_n 0, 1) := by decide +kernel
theorem dL_law_952 : decode cL_law 952 = .ok (.iload 4, 2) := by decide +kernel
theorem dL_law_954 : decode cL_law 954 = .ok (.iconst 3, 1) := by decide +kernel
theorem dL_law_955 : decode cL_law 955 = .ok (.iadd, 1) := by decide +kernel
theorem dL_law_956 : decode cL_law 956 = .ok (.iaload, 1) := by decide +kernel
theorem dL_law_957 : decode cL_law 957 = .ok (.ifCond .eq 7, 3) := by decide +kernel
theorem dL_law_960 : decode cL_law 960 = .ok (.iconst 1, 1) := by decide +kernel
theorem dL_law_961 : decode cL_law 961 = .ok (.goto 4, 3) := by decide +kernel
theorem dL_law_964 : decode cL_law 964 = .ok (.iconst 0, 1) := by decide +kernel
theorem dL_law_965 : decode cL_law 965 = .ok (.invokevirtual 120, 3) := by decide +kernel
theorem dL_law_968 : decode cL_law 968 = .ok (.lstore 6, 2) := by decide +kernel
theorem dL_law_970 : decode cL_law 970 = .ok (.aload_n 2, 1) := by decide +kernel
theorem dL_law_971 : decode cL_law 971 = .ok (.invokevirtual 60, 3) := by decide +kernel
theorem dL_law_974 : decode cL_law 974 = .ok (.iload 5, 2) := by decide +kernel
theorem dL_law_976 : decode cL_law 976 = .ok (.if_icmp .eq 5, 3) := by decide +kernel
theorem dL_law_979 : decode cL_law 979 = .ok (.iconst 0, 1) := by decide +kernel
theorem dL_law_980 : decode cL_law 980 = .ok (.ireturn, 1) := by decide +kernel
theorem dL_law_981 : decode cL_law 981 = .ok (.iload 5, 2) := by decide +kernel
theorem dL_law_983 : decode cL_law 983 = .ok (.ifCond .ne 14, 3) := by decide +kernel
theorem dL_law_986 : decode cL_law 986 = .ok (.aload_n 3, 1) := by decide +kernel
theorem dL_law_987 : decode cL_law 987 = .ok (.iconst 0, 1) := by decide +kernel
theorem dL_law_988 : decode cL_law 988 = .ok (.laload, 1) := by decide +kernel
theorem dL_law_989 : decode cL_law 989 = .ok (.lload 6, 2) := by decide +kernel
theorem dL_law_991 : decode cL_law 991 = .ok (.lcmp, 1) := by decide +kernel
theorem dL_law_992 : decode cL_law 992 = .ok (.ifCond .eq 5, 3) := by decide +kernel
theorem dL_law_995 : decode cL_law 995 = .ok (.iconst 0, 1) := by decide +kernel
theorem dL_law_996 : decode cL_law 996 = .ok (.ireturn, 1) := by decide +kernel
theorem dL_law_997 : decode cL_law 997 = .ok (.goto 28, 3) := by decide +kernel
theorem dL_law_1000 : decode cL_law 1000 = .ok (.aload_n 1, 1) := by decide +kernel
theorem dL_law_1001 : decode cL_law 1001 = .ok (.aload_n 0, 1) := by decide +kernel
theorem dL_law_1002 : decode cL_law 1002 = .ok (.iload 4, 2) := by decide +kernel
theorem dL_law_1004 : decode cL_law 1004 = .ok (.iconst 1, 1) := by decide +kernel
theorem dL_law_1005 : decode cL_law 1005 = .ok (.iadd, 1) := by decide +kernel
theorem dL_law_1006 : decode cL_law 1006 = .ok (.iaload, 1) := by decide +kernel
theorem dL_law_1007 : decode cL_law 1007 = .ok (.invokevirtual 121, 3) := by decide +kernel
theorem dL_law_1010 : decode cL_law 1010 = .ok (.aload_n 2, 1) := by decide +kernel
theorem dL_law_1011 : decode cL_law 1011 = .ok (.aload_n 0, 1) := by decide +kernel
theorem dL_law_1012 : decode cL_law 1012 = .ok (.iload 4, 2) := by decide +kernel
theorem dL_law_1014 : decode cL_law 1014 = .ok (.iconst 1, 1) := by decide +kernel
theorem dL_law_1015 : decode cL_law 1015 = .ok (.iadd, 1) := by decide +kernel
theorem dL_law_1016 : decode cL_law 1016 = .ok (.iaload, 1) := by decide +kernel
theorem dL_law_1017 : decode cL_law 1017 = .ok (.invokevirtual 124, 3) := by decide +kernel
theorem dL_law_1020 : decode cL_law 1020 = .ok (.if_icmp .eq 5, 3) := by decide +kernel
theorem dL_law_1023 : decode cL_law 1023 = .ok (.iconst 0, 1) := by decide +kernel
theorem dL_law_1024 : decode cL_law 1024 = .ok (.ireturn, 1) := by decide +kernel
theorem dL_law_1025 : decode cL_law 1025 = .ok (.iinc 4 6, 3) := by decide +kernel
theorem dL_law_1028 : decode cL_law 1028 = .ok (.goto (-1005), 3) := by decide +kernel
theorem dL_law_1031 : decode cL_law 1031 = .ok (.iconst 1, 1) := by decide +kernel
theorem dL_law_1032 : decode cL_law 1032 = .ok (.ireturn, 1) := by decide +kernel
