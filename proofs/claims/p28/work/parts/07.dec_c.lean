theorem dL_isSame_421 : decode cL_isSame 421 = .ok (.if_icmp .le 23, 3) := by decide +kernel
theorem dL_isSame_424 : decode cL_isSame 424 = .ok (.aload 7, 2) := by decide +kernel
theorem dL_isSame_426 : decode cL_isSame 426 = .ok (.aload 8, 2) := by decide +kernel
theorem dL_isSame_428 : decode cL_isSame 428 = .ok (.invokestatic 91, 3) := by decide +kernel
theorem dL_isSame_431 : decode cL_isSame 431 = .ok (.aload 7, 2) := by decide +kernel
theorem dL_isSame_433 : decode cL_isSame 433 = .ok (.aload_n 3, 1) := by decide +kernel
theorem dL_isSame_434 : decode cL_isSame 434 = .ok (.invokestatic 91, 3) := by decide +kernel
theorem dL_isSame_437 : decode cL_isSame 437 = .ok (.if_icmp .ge 7, 3) := by decide +kernel
theorem dL_isSame_440 : decode cL_isSame 440 = .ok (.iconst 1, 1) := by decide +kernel
theorem dL_isSame_441 : decode cL_isSame 441 = .ok (.goto 4, 3) := by decide +kernel
theorem dL_isSame_444 : decode cL_isSame 444 = .ok (.iconst (-1), 1) := by decide +kernel
theorem dL_isSame_445 : decode cL_isSame 445 = .ok (.if_icmp .ne 45, 3) := by decide +kernel
theorem dL_isSame_448 : decode cL_isSame 448 = .ok (.aload 6, 2) := by decide +kernel
theorem dL_isSame_450 : decode cL_isSame 450 = .ok (.bipush 7, 2) := by decide +kernel
theorem dL_isSame_452 : decode cL_isSame 452 = .ok (.iaload, 1) := by decide +kernel
theorem dL_isSame_453 : decode cL_isSame 453 = .ok (.iconst 2, 1) := by decide +kernel
theorem dL_isSame_454 : decode cL_isSame 454 = .ok (.if_icmp .lt 32, 3) := by decide +kernel
theorem dL_isSame_457 : decode cL_isSame 457 = .ok (.aload_n 0, 1) := by decide +kernel
theorem dL_isSame_458 : decode cL_isSame 458 = .ok (.iconst 1, 1) := by decide +kernel
theorem dL_isSame_459 : decode cL_isSame 459 = .ok (.invokevirtual 94, 3) := by decide +kernel
theorem dL_isSame_462 : decode cL_isSame 462 = .ok (.aload 8, 2) := by decide +kernel
theorem dL_isSame_464 : decode cL_isSame 464 = .ok (.aload 7, 2) := by decide +kernel
theorem dL_isSame_466 : decode cL_isSame 466 = .ok (.invokestatic 91, 3) := by decide +kernel
theorem dL_isSame_469 : decode cL_isSame 469 = .ok (.aload 8, 2) := by decide +kernel
theorem dL_isSame_471 : decode cL_isSame 471 = .ok (.aload_n 3, 1) := by decide +kernel
theorem dL_isSame_472 : decode cL_isSame 472 = .ok (.invokestatic 91, 3) := by decide +kernel
theorem dL_isSame_475 : decode cL_isSame 475 = .ok (.if_icmp .ge 7, 3) := by decide +kernel
theorem dL_isSame_478 : decode cL_isSame 478 = .ok (.iconst 0, 1) := by decide +kernel
theorem dL_isSame_479 : decode cL_isSame 479 = .ok (.goto 4, 3) := by decide +kernel
theorem dL_isSame_482 : decode cL_isSame 482 = .ok (.iconst (-1), 1) := by decide +kernel
theorem dL_isSame_483 : decode cL_isSame 483 = .ok (.if_icmp .ne 7, 3) := by decide +kernel
theorem dL_isSame_486 : decode cL_isSame 486 = .ok (.iconst 1, 1) := by decide +kernel
theorem dL_isSame_487 : decode cL_isSame 487 = .ok (.goto 4, 3) := by decide +kernel
theorem dL_isSame_490 : decode cL_isSame 490 = .ok (.iconst 0, 1) := by decide +kernel
theorem dL_isSame_491 : decode cL_isSame 491 = .ok (.istore 10, 2) := by decide +kernel
theorem dL_isSame_493 : decode cL_isSame 493 = .ok (.iload 9, 2) := by decide +kernel
theorem dL_isSame_495 : decode cL_isSame 495 = .ok (.bipush 60, 2) := by decide +kernel
theorem dL_isSame_497 : decode cL_isSame 497 = .ok (.idiv, 1) := by decide +kernel
theorem dL_isSame_498 : decode cL_isSame 498 = .ok (.bipush 6, 2) := by decide +kernel
theorem dL_isSame_500 : decode cL_isSame 500 = .ok (.irem, 1) := by decide +kernel
theorem dL_isSame_501 : decode cL_isSame 501 = .ok (.ifCond .ne 73, 3) := by decide +kernel
theorem dL_isSame_504 : decode cL_isSame 504 = .ok (.iload 10, 2) := by decide +kernel
theorem dL_isSame_506 : decode cL_isSame 506 = .ok (.ifCond .eq 68, 3) := by decide +kernel
theorem dL_isSame_509 : decode cL_isSame 509 = .ok (.aload_n 0, 1) := by decide +kernel
theorem dL_isSame_510 : decode cL_isSame 510 = .ok (.iload 9, 2) := by decide +kernel
theorem dL_isSame_512 : decode cL_isSame 512 = .ok (.sipush 360, 3) := by decide +kernel
theorem dL_isSame_515 : decode cL_isSame 515 = .ok (.idiv, 1) := by decide +kernel
theorem dL_isSame_516 : decode cL_isSame 516 = .ok (.iconst 3, 1) := by decide +kernel
theorem dL_isSame_517 : decode cL_isSame 517 = .ok (.irem, 1) := by decide +kernel
theorem dL_isSame_518 : decode cL_isSame 518 = .ok (.invokevirtual 97, 3) := by decide +kernel
theorem dL_isSame_521 : decode cL_isSame 521 = .ok (.aload 6, 2) := by decide +kernel
theorem dL_isSame_523 : decode cL_isSame 523 = .ok (.bipush 8, 2) := by decide +kernel
theorem dL_isSame_525 : decode cL_isSame 525 = .ok (.iaload, 1) := by decide +kernel
theorem dL_isSame_526 : decode cL_isSame 526 = .ok (.iconst 1, 1) := by decide +kernel
theorem dL_isSame_527 : decode cL_isSame 527 = .ok (.if_icmp .ne 36, 3) := by decide +kernel
theorem dL_isSame_530 : decode cL_isSame 530 = .ok (.aload 6, 2) := by decide +kernel
theorem dL_isSame_532 : decode cL_isSame 532 = .ok (.iconst 3, 1) := by decide +kernel
theorem dL_isSame_533 : decode cL_isSame 533 = .ok (.iaload, 1) := by decide +kernel
theorem dL_isSame_534 : decode cL_isSame 534 = .ok (.aload 6, 2) := by decide +kernel
theorem dL_isSame_536 : decode cL_isSame 536 = .ok (.iconst 4, 1) := by decide +kernel
theorem dL_isSame_537 : decode cL_isSame 537 = .ok (.iaload, 1) := by decide +kernel
theorem dL_isSame_538 : decode cL_isSame 538 = .ok (.if_icmp .ge 25, 3) := by decide +kernel
theorem dL_isSame_541 : decode cL_isSame 541 = .ok (.aload_n 1, 1) := by decide +kernel
theorem dL_isSame_542 : decode cL_isSame 542 = .ok (.aload_n 2, 1) := by decide +kernel
theorem dL_isSame_543 : decode cL_isSame 543 = .ok (.aload_n 3, 1) := by decide +kernel
theorem dL_isSame_544 : decode cL_isSame 544 = .ok (.aload 4, 2) := by decide +kernel
theorem dL_isSame_546 : decode cL_isSame 546 = .ok (.aload 6, 2) := by decide +kernel
theorem dL_isSame_548 : decode cL_isSame 548 = .ok (.iload 9, 2) := by decide +kernel
theorem dL_isSame_550 : decode cL_isSame 550 = .ok (.sipush 360, 3) := by decide +kernel
theorem dL_isSame_553 : decode cL_isSame 553 = .ok (.idiv, 1) := by decide +kernel
theorem dL_isSame_554 : decode cL_isSame 554 = .ok (.iconst 3, 1) := by decide +kernel
theorem dL_isSame_555 : decode cL_isSame 555 = .ok (.irem, 1) := by decide +kernel
theorem dL_isSame_556 : decode cL_isSame 556 = .ok (.iconst (-1), 1) := by decide +kernel
theorem dL_isSame_557 : decode cL_isSame 557 = .ok (.invokestatic 100, 3) := by decide +kernel
theorem dL_isSame_560 : decode cL_isSame 560 = .ok (.goto 4, 3) := by decide +kernel
theorem dL_isSame_563 : decode cL_isSame 563 = .ok (.iconst 0, 1) := by decide +kernel
theorem dL_isSame_564 : decode cL_isSame 564 = .ok (.if_icmp .ne 7, 3) := by decide +kernel
theorem dL_isSame_567 : decode cL_isSame 567 = .ok (.iconst 1, 1) := by decide +kernel
theorem dL_isSame_568 : decode cL_isSame 568 = .ok (.goto 4, 3) := by decide +kernel
theorem dL_isSame_571 : decode cL_isSame 571 = .ok (.iconst 0, 1) := by decide +kernel
theorem dL_isSame_572 : decode cL_isSame 572 = .ok (.istore 10, 2) := by decide +kernel
theorem dL_isSame_574 : decode cL_isSame 574 = .ok (.iload 10, 2) := by decide +kernel
theorem dL_isSame_576 : decode cL_isSame 576 = .ok (.ireturn, 1) := by decide +kernel
theorem dL_isOffered_0 : decode cL_isOffered 0 = .ok (.iload 8, 2) := by decide +kernel
theorem dL_isOffered_2 : decode cL_isOffered 2 = .ok (.iconst 3, 1) := by decide +kernel
theorem dL_isOffered_3 : decode cL_isOffered 3 = .ok (.irem, 1) := by decide +kernel
theorem dL_isOffered_4 : decode cL_isOffered 4 = .ok (.istore 9, 2) := by decide +kernel
theorem dL_isOffered_6 : decode cL_isOffered 6 = .ok (.aload 5, 2) := by decide +kernel
theorem dL_isOffered_8 : decode cL_isOffered 8 = .ok (.bipush 8, 2) := by decide +kernel
theorem dL_isOffered_10 : decode cL_isOffered 10 = .ok (.iaload, 1) := by decide +kernel
theorem dL_isOffered_11 : decode cL_isOffered 11 = .ok (.ifCond .eq 22, 3) := by decide +kernel
theorem dL_isOffered_14 : decode cL_isOffered 14 = .ok (.aload 5, 2) := by decide +kernel
theorem dL_isOffered_16 : decode cL_isOffered 16 = .ok (.iconst 3, 1) := by decide +kernel
theorem dL_isOffered_17 : decode cL_isOffered 17 = .ok (.iaload, 1) := by decide +kernel
theorem dL_isOffered_18 : decode cL_isOffered 18 = .ok (.aload 5, 2) := by decide +kernel
theorem dL_isOffered_20 : decode cL_isOffered 20 = .ok (.iconst 4, 1) := by decide +kernel
theorem dL_isOffered_21 : decode cL_isOffered 21 = .ok (.iaload, 1) := by decide +kernel
theorem dL_isOffered_22 : decode cL_isOffered 22 = .ok (.if_icmp .eq 11, 3) := by decide +kernel
theorem dL_isOffered_25 : decode cL_isOffered 25 = .ok (.aload 5, 2) := by decide +kernel
theorem dL_isOffered_27 : decode cL_isOffered 27 = .ok (.iconst 5, 1) := by decide +kernel
theorem dL_isOffered_28 : decode cL_isOffered 28 = .ok (.iaload, 1) := by decide +kernel
theorem dL_isOffered_29 : decode cL_isOffered 29 = .ok (.iconst 4, 1) := by decide +kernel
theorem dL_isOffered_30 : decode cL_isOffered 30 = .ok (.if_icmp .ne 5, 3) := by decide +kernel
theorem dL_isOffered_33 : decode cL_isOffered 33 = .ok (.iconst 1, 1) := by decide +kernel
theorem dL_isOffered_34 : decode cL_isOffered 34 = .ok (.ireturn, 1) := by decide +kernel
theorem dL_isOffered_35 : decode cL_isOffered 35 = .ok (.iload 8, 2) := by decide +kernel
theorem dL_isOffered_37 : decode cL_isOffered 37 = .ok (.iconst 3, 1) := by decide +kernel
theorem dL_isOffered_38 : decode cL_isOffered 38 = .ok (.idiv, 1) := by decide +kernel
theorem dL_isOffered_39 : decode cL_isOffered 39 = .ok (.iconst 4, 1) := by decide +kernel
theorem dL_isOffered_40 : decode cL_isOffered 40 = .ok (.irem, 1) := by decide +kernel
theorem dL_isOffered_41 : decode cL_isOffered 41 = .ok (.ifCond .le 253, 3) := by decide +kernel
theorem dL_isOffered_44 : decode cL_isOffered 44 = .ok (.aload_n 1, 1) := by decide +kernel
theorem dL_isOffered_45 : decode cL_isOffered 45 = .ok (.aload_n 2, 1) := by decide +kernel
theorem dL_isOffered_46 : decode cL_isOffered 46 = .ok (.aload_n 3, 1) := by decide +kernel
theorem dL_isOffered_47 : decode cL_isOffered 47 = .ok (.aload 4, 2) := by decide +kernel
theorem dL_isOffered_49 : decode cL_isOffered 49 = .ok (.aload 5, 2) := by decide +kernel
theorem dL_isOffered_51 : decode cL_isOffered 51 = .ok (.iload 9, 2) := by decide +kernel
theorem dL_isOffered_53 : decode cL_isOffered 53 = .ok (.iconst (-1), 1) := by decide +kernel
theorem dL_isOffered_54 : decode cL_isOffered 54 = .ok (.invokestatic 100, 3) := by decide +kernel
theorem dL_isOffered_57 : decode cL_isOffered 57 = .ok (.istore 10, 2) := by decide +kernel
theorem dL_isOffered_59 : decode cL_isOffered 59 = .ok (.iload 10, 2) := by decide +kernel
theorem dL_isOffered_61 : decode cL_isOffered 61 = .ok (.ifCond .ne 15, 3) := by decide +kernel
theorem dL_isOffered_64 : decode cL_isOffered 64 = .ok (.iload 8, 2) := by decide +kernel
theorem dL_isOffered_66 : decode cL_isOffered 66 = .ok (.bipush 12, 2) := by decide +kernel
theorem dL_isOffered_68 : decode cL_isOffered 68 = .ok (.idiv, 1) := by decide +kernel
theorem dL_isOffered_69 : decode cL_isOffered 69 = .ok (.sipush 300, 3) := by decide +kernel
theorem dL_isOffered_72 : decode cL_isOffered 72 = .ok (.irem, 1) := by decide +kernel
theorem dL_isOffered_73 : decode cL_isOffered 73 = .ok (.goto 23, 3) := by decide +kernel
theorem dL_isOffered_76 : decode cL_isOffered 76 = .ok (.aload_n 1, 1) := by decide +kernel
theorem dL_isOffered_77 : decode cL_isOffered 77 = .ok (.aload_n 2, 1) := by decide +kernel
theorem dL_isOffered_78 : decode cL_isOffered 78 = .ok (.aload_n 3, 1) := by decide +kernel
theorem dL_isOffered_79 : decode cL_isOffered 79 = .ok (.aload 4, 2) := by decide +kernel
theorem dL_isOffered_81 : decode cL_isOffered 81 = .ok (.aload 5, 2) := by decide +kernel
theorem dL_isOffered_83 : decode cL_isOffered 83 = .ok (.iload 9, 2) := by decide +kernel
theorem dL_isOffered_85 : decode cL_isOffered 85 = .ok (.iload 8, 2) := by decide +kernel
theorem dL_isOffered_87 : decode cL_isOffered 87 = .ok (.bipush 12, 2) := by decide +kernel
theorem dL_isOffered_89 : decode cL_isOffered 89 = .ok (.idiv, 1) := by decide +kernel
theorem dL_isOffered_90 : decode cL_isOffered 90 = .ok (.iload 10, 2) := by decide +kernel
theorem dL_isOffered_92 : decode cL_isOffered 92 = .ok (.irem, 1) := by decide +kernel
theorem dL_isOffered_93 : decode cL_isOffered 93 = .ok (.invokestatic 100, 3) := by decide +kernel
theorem dL_isOffered_96 : decode cL_isOffered 96 = .ok (.istore 11, 2) := by decide +kernel
theorem dL_isOffered_98 : decode cL_isOffered 98 = .ok (.aload_n 0, 1) := by decide +kernel
theorem dL_isOffered_99 : decode cL_isOffered 99 = .ok (.invokevirtual 103, 3) := by decide +kernel
theorem dL_isOffered_102 : decode cL_isOffered 102 = .ok (.aload 6, 2) := by decide +kernel
theorem dL_isOffered_104 : decode cL_isOffered 104 = .ok (.iconst 0, 1) := by decide +kernel
theorem dL_isOffered_105 : decode cL_isOffered 105 = .ok (.iaload, 1) := by decide +kernel
theorem dL_isOffered_106 : decode cL_isOffered 106 = .ok (.ifCond .ne 7, 3) := by decide +kernel
theorem dL_isOffered_109 : decode cL_isOffered 109 = .ok (.iconst 0, 1) := by decide +kernel
theorem dL_isOffered_110 : decode cL_isOffered 110 = .ok (.goto 60, 3) := by decide +kernel
theorem dL_isOffered_113 : decode cL_isOffered 113 = .ok (.aload 6, 2) := by decide +kernel
theorem dL_isOffered_115 : decode cL_isOffered 115 = .ok (.iconst 1, 1) := by decide +kernel
theorem dL_isOffered_116 : decode cL_isOffered 116 = .ok (.iaload, 1) := by decide +kernel
theorem dL_isOffered_117 : decode cL_isOffered 117 = .ok (.ifCond .ne 7, 3) := by decide +kernel
theorem dL_isOffered_120 : decode cL_isOffered 120 = .ok (.iconst 1, 1) := by decide +kernel
theorem dL_isOffered_121 : decode cL_isOffered 121 = .ok (.goto 49, 3) := by decide +kernel
theorem dL_isOffered_124 : decode cL_isOffered 124 = .ok (.aload 6, 2) := by decide +kernel
theorem dL_isOffered_126 : decode cL_isOffered 126 = .ok (.iconst 2, 1) := by decide +kernel
theorem dL_isOffered_127 : decode cL_isOffered 127 = .ok (.iaload, 1) := by decide +kernel
theorem dL_isOffered_128 : decode cL_isOffered 128 = .ok (.ifCond .ne 7, 3) := by decide +kernel
theorem dL_isOffered_131 : decode cL_isOffered 131 = .ok (.iconst 2, 1) := by decide +kernel
theorem dL_isOffered_132 : decode cL_isOffered 132 = .ok (.goto 38, 3) := by decide +kernel
theorem dL_isOffered_135 : decode cL_isOffered 135 = .ok (.aload 6, 2) := by decide +kernel
theorem dL_isOffered_137 : decode cL_isOffered 137 = .ok (.iconst 3, 1) := by decide +kernel
theorem dL_isOffered_138 : decode cL_isOffered 138 = .ok (.iaload, 1) := by decide +kernel
theorem dL_isOffered_139 : decode cL_isOffered 139 = .ok (.ifCond .ne 7, 3) := by decide +kernel
theorem dL_isOffered_142 : decode cL_isOffered 142 = .ok (.iconst 3, 1) := by decide +kernel
theorem dL_isOffered_143 : decode cL_isOffered 143 = .ok (.goto 27, 3) := by decide +kernel
theorem dL_isOffered_146 : decode cL_isOffered 146 = .ok (.aload 6, 2) := by decide +kernel
theorem dL_isOffered_148 : decode cL_isOffered 148 = .ok (.iconst 4, 1) := by decide +kernel
theorem dL_isOffered_149 : decode cL_isOffered 149 = .ok (.iaload, 1) := by decide +kernel
theorem dL_isOffered_150 : decode cL_isOffered 150 = .ok (.ifCond .ne 7, 3) := by decide +kernel
theorem dL_isOffered_153 : decode cL_isOffered 153 = .ok (.iconst 4, 1) := by decide +kernel
theorem dL_isOffered_154 : decode cL_isOffered 154 = .ok (.goto 16, 3) := by decide +kernel
theorem dL_isOffered_157 : decode cL_isOffered 157 = .ok (.aload 6, 2) := by decide +kernel
theorem dL_isOffered_159 : decode cL_isOffered 159 = .ok (.iconst 5, 1) := by decide +kernel
theorem dL_isOffered_160 : decode cL_isOffered 160 = .ok (.iaload, 1) := by decide +kernel
theorem dL_isOffered_161 : decode cL_isOffered 161 = .ok (.ifCond .ne 7, 3) := by decide +kernel
theorem dL_isOffered_164 : decode cL_isOffered 164 = .ok (.iconst 5, 1) := by decide +kernel
theorem dL_isOffered_165 : decode cL_isOffered 165 = .ok (.goto 5, 3) := by decide +kernel
theorem dL_isOffered_168 : decode cL_isOffered 168 = .ok (.bipush 6, 2) := by decide +kernel
theorem dL_isOffered_170 : decode cL_isOffered 170 = .ok (.if_icmp .ne 53, 3) := by decide +kernel
theorem dL_isOffered_173 : decode cL_isOffered 173 = .ok (.aload_n 0, 1) := by decide +kernel
theorem dL_isOffered_174 : decode cL_isOffered 174 = .ok (.iload 11, 2) := by decide +kernel
theorem dL_isOffered_176 : decode cL_isOffered 176 = .ok (.bipush 20, 2) := by decide +kernel
theorem dL_isOffered_178 : decode cL_isOffered 178 = .ok (.idiv, 1) := by decide +kernel
theorem dL_isOffered_179 : decode cL_isOffered 179 = .ok (.invokevirtual 106, 3) := by decide +kernel
theorem dL_isOffered_182 : decode cL_isOffered 182 = .ok (.iconst 1, 1) := by decide +kernel
theorem dL_isOffered_183 : decode cL_isOffered 183 = .ok (.if_icmp .ne 40, 3) := by decide +kernel
theorem dL_isOffered_186 : decode cL_isOffered 186 = .ok (.iload 11, 2) := by decide +kernel
theorem dL_isOffered_188 : decode cL_isOffered 188 = .ok (.bipush 20, 2) := by decide +kernel
theorem dL_isOffered_190 : decode cL_isOffered 190 = .ok (.irem, 1) := by decide +kernel
theorem dL_isOffered_191 : decode cL_isOffered 191 = .ok (.ifCond .eq 28, 3) := by decide +kernel
theorem dL_isOffered_194 : decode cL_isOffered 194 = .ok (.iload 11, 2) := by decide +kernel
theorem dL_isOffered_196 : decode cL_isOffered 196 = .ok (.bipush 20, 2) := by decide +kernel
theorem dL_isOffered_198 : decode cL_isOffered 198 = .ok (.irem, 1) := by decide +kernel
theorem dL_isOffered_199 : decode cL_isOffered 199 = .ok (.bipush 16, 2) := by decide +kernel
theorem dL_isOffered_201 : decode cL_isOffered 201 = .ok (.if_icmp .gt 18, 3) := by decide +kernel
theorem dL_isOffered_204 : decode cL_isOffered 204 = .ok (.aload_n 0, 1) := by decide +kernel
theorem dL_isOffered_205 : decode cL_isOffered 205 = .ok (.iload 11, 2) := by decide +kernel
theorem dL_isOffered_207 : decode cL_isOffered 207 = .ok (.bipush 20, 2) := by decide +kernel
theorem dL_isOffered_209 : decode cL_isOffered 209 = .ok (.irem, 1) := by decide +kernel
theorem dL_isOffered_210 : decode cL_isOffered 210 = .ok (.iconst 1, 1) := by decide +kernel
theorem dL_isOffered_211 : decode cL_isOffered 211 = .ok (.isub, 1) := by decide +kernel
theorem dL_isOffered_212 : decode cL_isOffered 212 = .ok (.invokevirtual 106, 3) := by decide +kernel
theorem dL_isOffered_215 : decode cL_isOffered 215 = .ok (.iconst 2, 1) := by decide +kernel
theorem dL_isOffered_216 : decode cL_isOffered 216 = .ok (.if_icmp .ne 7, 3) := by decide +kernel
theorem dL_isOffered_219 : decode cL_isOffered 219 = .ok (.iconst 1, 1) := by decide +kernel
theorem dL_isOffered_220 : decode cL_isOffered 220 = .ok (.goto 4, 3) := by decide +kernel
theorem dL_isOffered_223 : decode cL_isOffered 223 = .ok (.iconst 0, 1) := by decide +kernel
theorem dL_isOffered_224 : decode cL_isOffered 224 = .ok (.istore 12, 2) := by decide +kernel
theorem dL_isOffered_226 : decode cL_isOffered 226 = .ok (.iconst 0, 1) := by decide +kernel
theorem dL_isOffered_227 : decode cL_isOffered 227 = .ok (.istore 13, 2) := by decide +kernel
theorem dL_isOffered_229 : decode cL_isOffered 229 = .ok (.iload 13, 2) := by decide +kernel
theorem dL_isOffered_231 : decode cL_isOffered 231 = .ok (.bipush 6, 2) := by decide +kernel
theorem dL_isOffered_233 : decode cL_isOffered 233 = .ok (.if_icmp .ge 54, 3) := by decide +kernel
theorem dL_isOffered_236 : decode cL_isOffered 236 = .ok (.aload 6, 2) := by decide +kernel
theorem dL_isOffered_238 : decode cL_isOffered 238 = .ok (.iload 13, 2) := by decide +kernel
theorem dL_isOffered_240 : decode cL_isOffered 240 = .ok (.iload 13, 2) := by decide +kernel
theorem dL_isOffered_242 : decode cL_isOffered 242 = .ok (.ifCond .ne 13, 3) := by decide +kernel
theorem dL_isOffered_245 : decode cL_isOffered 245 = .ok (.iload 11, 2) := by decide +kernel
theorem dL_isOffered_247 : decode cL_isOffered 247 = .ok (.bipush 20, 2) := by decide +kernel
theorem dL_isOffered_249 : decode cL_isOffered 249 = .ok (.idiv, 1) := by decide +kernel
theorem dL_isOffered_250 : decode cL_isOffered 250 = .ok (.iconst 1, 1) := by decide +kernel
theorem dL_isOffered_251 : decode cL_isOffered 251 = .ok (.iadd, 1) := by decide +kernel
theorem dL_isOffered_252 : decode cL_isOffered 252 = .ok (.goto 28, 3) := by decide +kernel
theorem dL_isOffered_255 : decode cL_isOffered 255 = .ok (.iload 13, 2) := by decide +kernel
theorem dL_isOffered_257 : decode cL_isOffered 257 = .ok (.iconst 1, 1) := by decide +kernel
theorem dL_isOffered_258 : decode cL_isOffered 258 = .ok (.if_icmp .ne 21, 3) := by decide +kernel
theorem dL_isOffered_261 : decode cL_isOffered 261 = .ok (.iload 11, 2) := by decide +kernel
theorem dL_isOffered_263 : decode cL_isOffered 263 = .ok (.bipush 20, 2) := by decide +kernel
theorem dL_isOffered_265 : decode cL_isOffered 265 = .ok (.irem, 1) := by decide +kernel
theorem dL_isOffered_266 : decode cL_isOffered 266 = .ok (.bipush 17, 2) := by decide +kernel
theorem dL_isOffered_268 : decode cL_isOffered 268 = .ok (.if_icmp .ge 11, 3) := by decide +kernel
theorem dL_isOffered_271 : decode cL_isOffered 271 = .ok (.iload 11, 2) := by decide +kernel
theorem dL_isOffered_273 : decode cL_isOffered 273 = .ok (.bipush 20, 2) := by decide +kernel
theorem dL_isOffered_275 : decode cL_isOffered 275 = .ok (.irem, 1) := by decide +kernel
theorem dL_isOffered_276 : decode cL_isOffered 276 = .ok (.goto 4, 3) := by decide +kernel
theorem dL_isOffered_279 : decode cL_isOffered 279 = .ok (.iconst 0, 1) := by decide +kernel
theorem dL_isOffered_280 : decode cL_isOffered 280 = .ok (.iastore, 1) := by decide +kernel
theorem dL_isOffered_281 : decode cL_isOffered 281 = .ok (.iinc 13 1, 3) := by decide +kernel
theorem dL_isOffered_284 : decode cL_isOffered 284 = .ok (.goto (-55), 3) := by decide +kernel
theorem dL_isOffered_287 : decode cL_isOffered 287 = .ok (.iload 12, 2) := by decide +kernel
theorem dL_isOffered_289 : decode cL_isOffered 289 = .ok (.ifCond .ne 5, 3) := by decide +kernel
theorem dL_isOffered_292 : decode cL_isOffered 292 = .ok (.iconst 0, 1) := by decide +kernel
theorem dL_isOffered_293 : decode cL_isOffered 293 = .ok (.ireturn, 1) := by decide +kernel
theorem dL_isOffered_294 : decode cL_isOffered 294 = .ok (.aload_n 1, 1) := by decide +kernel
theorem dL_isOffered_295 : decode cL_isOffered 295 = .ok (.aload_n 2, 1) := by decide +kernel
theorem dL_isOffered_296 : decode cL_isOffered 296 = .ok (.aload_n 3, 1) := by decide +kernel
theorem dL_isOffered_297 : decode cL_isOffered 297 = .ok (.aload 4, 2) := by decide +kernel
theorem dL_isOffered_299 : decode cL_isOffered 299 = .ok (.aload 5, 2) := by decide +kernel
theorem dL_isOffered_301 : decode cL_isOffered 301 = .ok (.aload 6, 2) := by decide +kernel
theorem dL_isOffered_303 : decode cL_isOffered 303 = .ok (.iload 9, 2) := by decide +kernel
theorem dL_isOffered_305 : decode cL_isOffered 305 = .ok (.invokestatic 46, 3) := by decide +kernel
theorem dL_isOffered_308 : decode cL_isOffered 308 = .ok (.istore 10, 2) := by decide +kernel
theorem dL_isOffered_310 : decode cL_isOffered 310 = .ok (.iload 10, 2) := by decide +kernel
theorem dL_isOffered_312 : decode cL_isOffered 312 = .ok (.ifCond .le 34, 3) := by decide +kernel
theorem dL_isOffered_315 : decode cL_isOffered 315 = .ok (.aload 5, 2) := by decide +kernel
theorem dL_isOffered_317 : decode cL_isOffered 317 = .ok (.bipush 6, 2) := by decide +kernel
theorem dL_isOffered_319 : decode cL_isOffered 319 = .ok (.iload 10, 2) := by decide +kernel
theorem dL_isOffered_321 : decode cL_isOffered 321 = .ok (.bipush 100, 2) := by decide +kernel
theorem dL_isOffered_323 : decode cL_isOffered 323 = .ok (.irem, 1) := by decide +kernel
theorem dL_isOffered_324 : decode cL_isOffered 324 = .ok (.iastore, 1) := by decide +kernel
theorem dL_isOffered_325 : decode cL_isOffered 325 = .ok (.aload_n 0, 1) := by decide +kernel
theorem dL_isOffered_326 : decode cL_isOffered 326 = .ok (.iload 9, 2) := by decide +kernel
theorem dL_isOffered_328 : decode cL_isOffered 328 = .ok (.invokevirtual 109, 3) := by decide +kernel
theorem dL_isOffered_331 : decode cL_isOffered 331 = .ok (.iload 10, 2) := by decide +kernel
theorem dL_isOffered_333 : decode cL_isOffered 333 = .ok (.ineg, 1) := by decide +kernel
theorem dL_isOffered_334 : decode cL_isOffered 334 = .ok (.bipush 100, 2) := by decide +kernel
theorem dL_isOffered_336 : decode cL_isOffered 336 = .ok (.idiv, 1) := by decide +kernel
theorem dL_isOffered_337 : decode cL_isOffered 337 = .ok (.if_icmp .ne 7, 3) := by decide +kernel
theorem dL_isOffered_340 : decode cL_isOffered 340 = .ok (.iconst 1, 1) := by decide +kernel
theorem dL_isOffered_341 : decode cL_isOffered 341 = .ok (.goto 4, 3) := by decide +kernel
theorem dL_isOffered_344 : decode cL_isOffered 344 = .ok (.iconst 0, 1) := by decide +kernel
theorem dL_isOffered_345 : decode cL_isOffered 345 = .ok (.ireturn, 1) := by decide +kernel
theorem dL_isOffered_346 : decode cL_isOffered 346 = .ok (.aload 7, 2) := by decide +kernel
theorem dL_isOffered_348 : decode cL_isOffered 348 = .ok (.bipush 7, 2) := by decide +kernel
theorem dL_isOffered_350 : decode cL_isOffered 350 = .ok (.aload 5, 2) := by decide +kernel
theorem dL_isOffered_352 : decode cL_isOffered 352 = .ok (.iconst 5, 1) := by decide +kernel
theorem dL_isOffered_353 : decode cL_isOffered 353 = .ok (.iaload, 1) := by decide +kernel
theorem dL_isOffered_354 : decode cL_isOffered 354 = .ok (.imul, 1) := by decide +kernel
theorem dL_isOffered_355 : decode cL_isOffered 355 = .ok (.iload 9, 2) := by decide +kernel
theorem dL_isOffered_357 : decode cL_isOffered 357 = .ok (.iastore, 1) := by decide +kernel
theorem dL_isOffered_358 : decode cL_isOffered 358 = .ok (.iconst 0, 1) := by decide +kernel
theorem dL_isOffered_359 : decode cL_isOffered 359 = .ok (.istore 11, 2) := by decide +kernel
theorem dL_isOffered_361 : decode cL_isOffered 361 = .ok (.iload 11, 2) := by decide +kernel
theorem dL_isOffered_363 : decode cL_isOffered 363 = .ok (.bipush 6, 2) := by decide +kernel
theorem dL_isOffered_365 : decode cL_isOffered 365 = .ok (.if_icmp .ge 35, 3) := by decide +kernel
theorem dL_isOffered_368 : decode cL_isOffered 368 = .ok (.aload 7, 2) := by decide +kernel
theorem dL_isOffered_370 : decode cL_isOffered 370 = .ok (.bipush 7, 2) := by decide +kernel
theorem dL_isOffered_372 : decode cL_isOffered 372 = .ok (.aload 5, 2) := by decide +kernel
theorem dL_isOffered_374 : decode cL_isOffered 374 = .ok (.iconst 5, 1) := by decide +kernel
theorem dL_isOffered_375 : decode cL_isOffered 375 = .ok (.iaload, 1) := by decide +kernel
theorem dL_isOffered_376 : decode cL_isOffered 376 = .ok (.imul, 1) := by decide +kernel
theorem dL_isOffered_377 : decode cL_isOffered 377 = .ok (.iconst 1, 1) := by decide +kernel
theorem dL_isOffered_378 : decode cL_isOffered 378 = .ok (.iadd, 1) := by decide +kernel
theorem dL_isOffered_379 : decode cL_isOffered 379 = .ok (.iload 11, 2) := by decide +kernel
theorem dL_isOffered_381 : decode cL_isOffered 381 = .ok (.iadd, 1) := by decide +kernel
theorem dL_isOffered_382 : decode cL_isOffered 382 = .ok (.aload 6, 2) := by decide +kernel
theorem dL_isOffered_384 : decode cL_isOffered 384 = .ok (.iload 11, 2) := by decide +kernel
theorem dL_isOffered_386 : decode cL_isOffered 386 = .ok (.iaload, 1) := by decide +kernel
theorem dL_isOffered_387 : decode cL_isOffered 387 = .ok (.iastore, 1) := by decide +kernel
theorem dL_isOffered_388 : decode cL_isOffered 388 = .ok (.aload 6, 2) := by decide +kernel
theorem dL_isOffered_390 : decode cL_isOffered 390 = .ok (.iload 11, 2) := by decide +kernel
theorem dL_isOffered_392 : decode cL_isOffered 392 = .ok (.iconst 0, 1) := by decide +kernel
theorem dL_isOffered_393 : decode cL_isOffered 393 = .ok (.iastore, 1) := by decide +kernel
theorem dL_isOffered_394 : decode cL_isOffered 394 = .ok (.iinc 11 1, 3) := by decide +kernel
theorem dL_isOffered_397 : decode cL_isOffered 397 = .ok (.goto (-36), 3) := by decide +kernel
theorem dL_isOffered_400 : decode cL_isOffered 400 = .ok (.aload 5, 2) := by decide +kernel
theorem dL_isOffered_402 : decode cL_isOffered 402 = .ok (.iconst 5, 1) := by decide +kernel
theorem dL_isOffered_403 : decode cL_isOffered 403 = .ok (.dup2, 1) := by decide +kernel
theorem dL_isOffered_404 : decode cL_isOffered 404 = .ok (.iaload, 1) := by decide +kernel
theorem dL_isOffered_405 : decode cL_isOffered 405 = .ok (.iconst 1, 1) := by decide +kernel
theorem dL_isOffered_406 : decode cL_isOffered 406 = .ok (.iadd, 1) := by decide +kernel
theorem dL_isOffered_407 : decode cL_isOffered 407 = .ok (.iastore, 1) := by decide +kernel
theorem dL_isOffered_408 : decode cL_isOffered 408 = .ok (.aload_n 0, 1) := by decide +kernel
theorem dL_isOffered_409 : decode cL_isOffered 409 = .ok (.iload 9, 2) := by decide +kernel
theorem dL_isOffered_411 : decode cL_isOffered 411 = .ok (.invokevirtual 109, 3) := by decide +kernel
theorem dL_isOffered_414 : decode cL_isOffered 414 = .ok (.aload 5, 2) := by decide +kernel
theorem dL_isOffered_416 : decode cL_isOffered 416 = .ok (.iconst 5, 1) := by decide +kernel
theorem dL_isOffered_417 : decode cL_isOffered 417 = .ok (.iaload, 1) := by decide +kernel
theorem dL_isOffered_418 : decode cL_isOffered 418 = .ok (.iconst 1, 1) := by decide +kernel
theorem dL_isOffered_419 : decode cL_isOffered 419 = .ok (.isub, 1) := by decide +kernel
theorem dL_isOffered_420 : decode cL_isOffered 420 = .ok (.if_icmp .ne 7, 3) := by decide +kernel
theorem dL_isOffered_423 : decode cL_isOffered 423 = .ok (.iconst 1, 1) := by decide +kernel
theorem dL_isOffered_424 : decode cL_isOffered 424 = .ok (.goto 4, 3) := by decide +kernel
theorem dL_isOffered_427 : decode cL_isOffered 427 = .ok (.iconst 0, 1) := by decide +kernel
theorem dL_isOffered_428 : decode cL_isOffered 428 = .ok (.ireturn, 1) := by decide +kernel
theorem dL_isChosen_0 : decode cL_isChosen 0 = .ok (.aload_n 3, 1) := by decide +kernel
theorem dL_isChosen_1 : decode cL_isChosen 1 = .ok (.iconst 5, 1) := by decide +kernel
theorem dL_isChosen_2 : decode cL_isChosen 2 = .ok (.iaload, 1) := by decide +kernel
theorem dL_isChosen_3 : decode cL_isChosen 3 = .ok (.ifCond .ne 5, 3) := by decide +kernel
theorem dL_isChosen_6 : decode cL_isChosen 6 = .ok (.iconst 1, 1) := by decide +kernel
theorem dL_isChosen_7 : decode cL_isChosen 7 = .ok (.ireturn, 1) := by decide +kernel
theorem dL_isChosen_8 : decode cL_isChosen 8 = .ok (.iload 5, 2) := by decide +kernel
theorem dL_isChosen_10 : decode cL_isChosen 10 = .ok (.aload_n 3, 1) := by decide +kernel
theorem dL_isChosen_11 : decode cL_isChosen 11 = .ok (.iconst 5, 1) := by decide +kernel
theorem dL_isChosen_12 : decode cL_isChosen 12 = .ok (.iaload, 1) := by decide +kernel
theorem dL_isChosen_13 : decode cL_isChosen 13 = .ok (.irem, 1) := by decide +kernel
theorem dL_isChosen_14 : decode cL_isChosen 14 = .ok (.istore 6, 2) := by decide +kernel
theorem dL_isChosen_16 : decode cL_isChosen 16 = .ok (.aload_n 2, 1) := by decide +kernel
theorem dL_isChosen_17 : decode cL_isChosen 17 = .ok (.iconst 4, 1) := by decide +kernel
theorem dL_isChosen_18 : decode cL_isChosen 18 = .ok (.aload_n 3, 1) := by decide +kernel
theorem dL_isChosen_19 : decode cL_isChosen 19 = .ok (.iconst 3, 1) := by decide +kernel
theorem dL_isChosen_20 : decode cL_isChosen 20 = .ok (.iaload, 1) := by decide +kernel
theorem dL_isChosen_21 : decode cL_isChosen 21 = .ok (.imul, 1) := by decide +kernel
theorem dL_isChosen_22 : decode cL_isChosen 22 = .ok (.aload 4, 2) := by decide +kernel
theorem dL_isChosen_24 : decode cL_isChosen 24 = .ok (.bipush 7, 2) := by decide +kernel
theorem dL_isChosen_26 : decode cL_isChosen 26 = .ok (.iload 6, 2) := by decide +kernel
theorem dL_isChosen_28 : decode cL_isChosen 28 = .ok (.imul, 1) := by decide +kernel
theorem dL_isChosen_29 : decode cL_isChosen 29 = .ok (.iaload, 1) := by decide +kernel
theorem dL_isChosen_30 : decode cL_isChosen 30 = .ok (.iastore, 1) := by decide +kernel
theorem dL_isChosen_31 : decode cL_isChosen 31 = .ok (.iconst 0, 1) := by decide +kernel
theorem dL_isChosen_32 : decode cL_isChosen 32 = .ok (.istore 7, 2) := by decide +kernel
theorem dL_isChosen_34 : decode cL_isChosen 34 = .ok (.iload 7, 2) := by decide +kernel
theorem dL_isChosen_36 : decode cL_isChosen 36 = .ok (.bipush 6, 2) := by decide +kernel
theorem dL_isChosen_38 : decode cL_isChosen 38 = .ok (.if_icmp .ge 33, 3) := by decide +kernel
theorem dL_isChosen_41 : decode cL_isChosen 41 = .ok (.aload_n 1, 1) := by decide +kernel
theorem dL_isChosen_42 : decode cL_isChosen 42 = .ok (.bipush 6, 2) := by decide +kernel
theorem dL_isChosen_44 : decode cL_isChosen 44 = .ok (.aload_n 3, 1) := by decide +kernel
theorem dL_isChosen_45 : decode cL_isChosen 45 = .ok (.iconst 3, 1) := by decide +kernel
theorem dL_isChosen_46 : decode cL_isChosen 46 = .ok (.iaload, 1) := by decide +kernel
theorem dL_isChosen_47 : decode cL_isChosen 47 = .ok (.imul, 1) := by decide +kernel
theorem dL_isChosen_48 : decode cL_isChosen 48 = .ok (.iload 7, 2) := by decide +kernel
theorem dL_isChosen_50 : decode cL_isChosen 50 = .ok (.iadd, 1) := by decide +kernel
theorem dL_isChosen_51 : decode cL_isChosen 51 = .ok (.aload 4, 2) := by decide +kernel
theorem dL_isChosen_53 : decode cL_isChosen 53 = .ok (.bipush 7, 2) := by decide +kernel
theorem dL_isChosen_55 : decode cL_isChosen 55 = .ok (.iload 6, 2) := by decide +kernel
theorem dL_isChosen_57 : decode cL_isChosen 57 = .ok (.imul, 1) := by decide +kernel
theorem dL_isChosen_58 : decode cL_isChosen 58 = .ok (.iconst 1, 1) := by decide +kernel
theorem dL_isChosen_59 : decode cL_isChosen 59 = .ok (.iadd, 1) := by decide +kernel
theorem dL_isChosen_60 : decode cL_isChosen 60 = .ok (.iload 7, 2) := by decide +kernel
theorem dL_isChosen_62 : decode cL_isChosen 62 = .ok (.iadd, 1) := by decide +kernel
theorem dL_isChosen_63 : decode cL_isChosen 63 = .ok (.iaload, 1) := by decide +kernel
theorem dL_isChosen_64 : decode cL_isChosen 64 = .ok (.iastore, 1) := by decide +kernel
theorem dL_isChosen_65 : decode cL_isChosen 65 = .ok (.iinc 7 1, 3) := by decide +kernel
theorem dL_isChosen_68 : decode cL_isChosen 68 = .ok (.goto (-34), 3) := by decide +kernel
theorem dL_isChosen_71 : decode cL_isChosen 71 = .ok (.aload_n 3, 1) := by decide +kernel
theorem dL_isChosen_72 : decode cL_isChosen 72 = .ok (.iconst 5, 1) := by decide +kernel
theorem dL_isChosen_73 : decode cL_isChosen 73 = .ok (.iconst 0, 1) := by decide +kernel
theorem dL_isChosen_74 : decode cL_isChosen 74 = .ok (.iastore, 1) := by decide +kernel
theorem dL_isChosen_75 : decode cL_isChosen 75 = .ok (.aload_n 3, 1) := by decide +kernel
theorem dL_isChosen_76 : decode cL_isChosen 76 = .ok (.iconst 3, 1) := by decide +kernel
theorem dL_isChosen_77 : decode cL_isChosen 77 = .ok (.dup2, 1) := by decide +kernel
theorem dL_isChosen_78 : decode cL_isChosen 78 = .ok (.iaload, 1) := by decide +kernel
theorem dL_isChosen_79 : decode cL_isChosen 79 = .ok (.iconst 1, 1) := by decide +kernel
theorem dL_isChosen_80 : decode cL_isChosen 80 = .ok (.iadd, 1) := by decide +kernel
theorem dL_isChosen_81 : decode cL_isChosen 81 = .ok (.iastore, 1) := by decide +kernel
theorem dL_isChosen_82 : decode cL_isChosen 82 = .ok (.aload_n 0, 1) := by decide +kernel
theorem dL_isChosen_83 : decode cL_isChosen 83 = .ok (.iload 6, 2) := by decide +kernel
theorem dL_isChosen_85 : decode cL_isChosen 85 = .ok (.invokevirtual 112, 3) := by decide +kernel
theorem dL_isChosen_88 : decode cL_isChosen 88 = .ok (.aload_n 3, 1) := by decide +kernel
theorem dL_isChosen_89 : decode cL_isChosen 89 = .ok (.iconst 3, 1) := by decide +kernel
theorem dL_isChosen_90 : decode cL_isChosen 90 = .ok (.iaload, 1) := by decide +kernel
theorem dL_isChosen_91 : decode cL_isChosen 91 = .ok (.iconst 1, 1) := by decide +kernel
theorem dL_isChosen_92 : decode cL_isChosen 92 = .ok (.isub, 1) := by decide +kernel
theorem dL_isChosen_93 : decode cL_isChosen 93 = .ok (.if_icmp .ne 7, 3) := by decide +kernel
theorem dL_isChosen_96 : decode cL_isChosen 96 = .ok (.iconst 1, 1) := by decide +kernel
theorem dL_isChosen_97 : decode cL_isChosen 97 = .ok (.goto 4, 3) := by decide +kernel
theorem dL_isChosen_100 : decode cL_isChosen 100 = .ok (.iconst 0, 1) := by decide +kernel
theorem dL_isChosen_101 : decode cL_isChosen 101 = .ok (.ireturn, 1) := by decide +kernel
theorem dL_isMended_0 : decode cL_isMended 0 = .ok (.aload 5, 2) := by decide +kernel
theorem dL_isMended_2 : decode cL_isMended 2 = .ok (.iconst 3, 1) := by decide +kernel
theorem dL_isMended_3 : decode cL_isMended 3 = .ok (.iaload, 1) := by decide +kernel
theorem dL_isMended_4 : decode cL_isMended 4 = .ok (.iconst 1, 1) := by decide +kernel
theorem dL_isMended_5 : decode cL_isMended 5 = .ok (.isub, 1) := by decide +kernel
theorem dL_isMended_6 : decode cL_isMended 6 = .ok (.istore 7, 2) := by decide +kernel
theorem dL_isMended_8 : decode cL_isMended 8 = .ok (.iload 6, 2) := by decide +kernel
theorem dL_isMended_10 : decode cL_isMended 10 = .ok (.iconst 2, 1) := by decide +kernel
theorem dL_isMended_11 : decode cL_isMended 11 = .ok (.irem, 1) := by decide +kernel
theorem dL_isMended_12 : decode cL_isMended 12 = .ok (.istore 8, 2) := by decide +kernel
theorem dL_isMended_14 : decode cL_isMended 14 = .ok (.aload 5, 2) := by decide +kernel
theorem dL_isMended_16 : decode cL_isMended 16 = .ok (.iconst 5, 1) := by decide +kernel
theorem dL_isMended_17 : decode cL_isMended 17 = .ok (.iaload, 1) := by decide +kernel
theorem dL_isMended_18 : decode cL_isMended 18 = .ok (.ifCond .gt 21, 3) := by decide +kernel
theorem dL_isMended_21 : decode cL_isMended 21 = .ok (.iload 7, 2) := by decide +kernel
theorem dL_isMended_23 : decode cL_isMended 23 = .ok (.ifCond .lt 16, 3) := by decide +kernel
theorem dL_isMended_26 : decode cL_isMended 26 = .ok (.aload_n 3, 1) := by decide +kernel
theorem dL_isMended_27 : decode cL_isMended 27 = .ok (.bipush 6, 2) := by decide +kernel
theorem dL_isMended_29 : decode cL_isMended 29 = .ok (.iload 7, 2) := by decide +kernel
theorem dL_isMended_31 : decode cL_isMended 31 = .ok (.imul, 1) := by decide +kernel
theorem dL_isMended_32 : decode cL_isMended 32 = .ok (.iload 8, 2) := by decide +kernel
theorem dL_isMended_34 : decode cL_isMended 34 = .ok (.iadd, 1) := by decide +kernel
theorem dL_isMended_35 : decode cL_isMended 35 = .ok (.iaload, 1) := by decide +kernel
theorem dL_isMended_36 : decode cL_isMended 36 = .ok (.ifCond .ne 5, 3) := by decide +kernel
theorem dL_isMended_39 : decode cL_isMended 39 = .ok (.iconst 1, 1) := by decide +kernel
theorem dL_isMended_40 : decode cL_isMended 40 = .ok (.ireturn, 1) := by decide +kernel
theorem dL_isMended_41 : decode cL_isMended 41 = .ok (.aload_n 3, 1) := by decide +kernel
theorem dL_isMended_42 : decode cL_isMended 42 = .ok (.bipush 6, 2) := by decide +kernel
theorem dL_isMended_44 : decode cL_isMended 44 = .ok (.iload 7, 2) := by decide +kernel
theorem dL_isMended_46 : decode cL_isMended 46 = .ok (.imul, 1) := by decide +kernel
theorem dL_isMended_47 : decode cL_isMended 47 = .ok (.iload 8, 2) := by decide +kernel
theorem dL_isMended_49 : decode cL_isMended 49 = .ok (.iadd, 1) := by decide +kernel
theorem dL_isMended_50 : decode cL_isMended 50 = .ok (.iaload, 1) := by decide +kernel
theorem dL_isMended_51 : decode cL_isMended 51 = .ok (.istore 9, 2) := by decide +kernel
theorem dL_isMended_53 : decode cL_isMended 53 = .ok (.aload_n 3, 1) := by decide +kernel
theorem dL_isMended_54 : decode cL_isMended 54 = .ok (.bipush 6, 2) := by decide +kernel
theorem dL_isMended_56 : decode cL_isMended 56 = .ok (.iload 7, 2) := by decide +kernel
theorem dL_isMended_58 : decode cL_isMended 58 = .ok (.imul, 1) := by decide +kernel
theorem dL_isMended_59 : decode cL_isMended 59 = .ok (.iload 8, 2) := by decide +kernel
theorem dL_isMended_61 : decode cL_isMended 61 = .ok (.iadd, 1) := by decide +kernel
theorem dL_isMended_62 : decode cL_isMended 62 = .ok (.iconst 1, 1) := by decide +kernel
theorem dL_isMended_63 : decode cL_isMended 63 = .ok (.iload 6, 2) := by decide +kernel
theorem dL_isMended_65 : decode cL_isMended 65 = .ok (.iconst 2, 1) := by decide +kernel
theorem dL_isMended_66 : decode cL_isMended 66 = .ok (.idiv, 1) := by decide +kernel
theorem dL_isMended_67 : decode cL_isMended 67 = .ok (.bipush 16, 2) := by decide +kernel
theorem dL_isMended_69 : decode cL_isMended 69 = .ok (.irem, 1) := by decide +kernel
theorem dL_isMended_70 : decode cL_isMended 70 = .ok (.iadd, 1) := by decide +kernel
theorem dL_isMended_71 : decode cL_isMended 71 = .ok (.iastore, 1) := by decide +kernel
theorem dL_isMended_72 : decode cL_isMended 72 = .ok (.aload_n 1, 1) := by decide +kernel
theorem dL_isMended_73 : decode cL_isMended 73 = .ok (.aload_n 2, 1) := by decide +kernel
theorem dL_isMended_74 : decode cL_isMended 74 = .ok (.aload_n 3, 1) := by decide +kernel
theorem dL_isMended_75 : decode cL_isMended 75 = .ok (.aload 4, 2) := by decide +kernel
theorem dL_isMended_77 : decode cL_isMended 77 = .ok (.aload 5, 2) := by decide +kernel
theorem dL_isMended_79 : decode cL_isMended 79 = .ok (.iload 7, 2) := by decide +kernel
theorem dL_isMended_81 : decode cL_isMended 81 = .ok (.iconst (-1), 1) := by decide +kernel
theorem dL_isMended_82 : decode cL_isMended 82 = .ok (.invokestatic 42, 3) := by decide +kernel
theorem dL_isMended_85 : decode cL_isMended 85 = .ok (.istore 10, 2) := by decide +kernel
theorem dL_isMended_87 : decode cL_isMended 87 = .ok (.iload 10, 2) := by decide +kernel
theorem dL_isMended_89 : decode cL_isMended 89 = .ok (.ifCond .le 53, 3) := by decide +kernel
theorem dL_isMended_92 : decode cL_isMended 92 = .ok (.aload_n 3, 1) := by decide +kernel
theorem dL_isMended_93 : decode cL_isMended 93 = .ok (.bipush 6, 2) := by decide +kernel
theorem dL_isMended_95 : decode cL_isMended 95 = .ok (.iload 7, 2) := by decide +kernel
theorem dL_isMended_97 : decode cL_isMended 97 = .ok (.imul, 1) := by decide +kernel
theorem dL_isMended_98 : decode cL_isMended 98 = .ok (.iload 8, 2) := by decide +kernel
theorem dL_isMended_100 : decode cL_isMended 100 = .ok (.iadd, 1) := by decide +kernel
theorem dL_isMended_101 : decode cL_isMended 101 = .ok (.iload 9, 2) := by decide +kernel
theorem dL_isMended_103 : decode cL_isMended 103 = .ok (.iastore, 1) := by decide +kernel
theorem dL_isMended_104 : decode cL_isMended 104 = .ok (.aload 5, 2) := by decide +kernel
theorem dL_isMended_106 : decode cL_isMended 106 = .ok (.bipush 6, 2) := by decide +kernel
theorem dL_isMended_108 : decode cL_isMended 108 = .ok (.iload 10, 2) := by decide +kernel
theorem dL_isMended_110 : decode cL_isMended 110 = .ok (.bipush 100, 2) := by decide +kernel
theorem dL_isMended_112 : decode cL_isMended 112 = .ok (.irem, 1) := by decide +kernel
theorem dL_isMended_113 : decode cL_isMended 113 = .ok (.iastore, 1) := by decide +kernel
theorem dL_isMended_114 : decode cL_isMended 114 = .ok (.aload_n 0, 1) := by decide +kernel
theorem dL_isMended_115 : decode cL_isMended 115 = .ok (.iload 8, 2) := by decide +kernel
theorem dL_isMended_117 : decode cL_isMended 117 = .ok (.iload 6, 2) := by decide +kernel
theorem dL_isMended_119 : decode cL_isMended 119 = .ok (.iconst 2, 1) := by decide +kernel
theorem dL_isMended_120 : decode cL_isMended 120 = .ok (.idiv, 1) := by decide +kernel
theorem dL_isMended_121 : decode cL_isMended 121 = .ok (.bipush 16, 2) := by decide +kernel
theorem dL_isMended_123 : decode cL_isMended 123 = .ok (.irem, 1) := by decide +kernel
theorem dL_isMended_124 : decode cL_isMended 124 = .ok (.invokevirtual 115, 3) := by decide +kernel
theorem dL_isMended_127 : decode cL_isMended 127 = .ok (.iload 10, 2) := by decide +kernel
theorem dL_isMended_129 : decode cL_isMended 129 = .ok (.ineg, 1) := by decide +kernel
theorem dL_isMended_130 : decode cL_isMended 130 = .ok (.bipush 100, 2) := by decide +kernel
theorem dL_isMended_132 : decode cL_isMended 132 = .ok (.idiv, 1) := by decide +kernel
theorem dL_isMended_133 : decode cL_isMended 133 = .ok (.if_icmp .ne 7, 3) := by decide +kernel
theorem dL_isMended_136 : decode cL_isMended 136 = .ok (.iconst 1, 1) := by decide +kernel
theorem dL_isMended_137 : decode cL_isMended 137 = .ok (.goto 4, 3) := by decide +kernel
theorem dL_isMended_140 : decode cL_isMended 140 = .ok (.iconst 0, 1) := by decide +kernel
theorem dL_isMended_141 : decode cL_isMended 141 = .ok (.ireturn, 1) := by decide +kernel
theorem dL_isMended_142 : decode cL_isMended 142 = .ok (.aload 4, 2) := by decide +kernel
theorem dL_isMended_144 : decode cL_isMended 144 = .ok (.iconst 4, 1) := by decide +kernel
theorem dL_isMended_145 : decode cL_isMended 145 = .ok (.iload 7, 2) := by decide +kernel
theorem dL_isMended_147 : decode cL_isMended 147 = .ok (.imul, 1) := by decide +kernel
theorem dL_isMended_148 : decode cL_isMended 148 = .ok (.iconst 3, 1) := by decide +kernel
theorem dL_isMended_149 : decode cL_isMended 149 = .ok (.iadd, 1) := by decide +kernel
theorem dL_isMended_150 : decode cL_isMended 150 = .ok (.iconst 1, 1) := by decide +kernel
theorem dL_isMended_151 : decode cL_isMended 151 = .ok (.iastore, 1) := by decide +kernel
theorem dL_isMended_152 : decode cL_isMended 152 = .ok (.aload_n 0, 1) := by decide +kernel
theorem dL_isMended_153 : decode cL_isMended 153 = .ok (.iload 8, 2) := by decide +kernel
theorem dL_isMended_155 : decode cL_isMended 155 = .ok (.iload 6, 2) := by decide +kernel
theorem dL_isMended_157 : decode cL_isMended 157 = .ok (.iconst 2, 1) := by decide +kernel
theorem dL_isMended_158 : decode cL_isMended 158 = .ok (.idiv, 1) := by decide +kernel
theorem dL_isMended_159 : decode cL_isMended 159 = .ok (.bipush 16, 2) := by decide +kernel
theorem dL_isMended_161 : decode cL_isMended 161 = .ok (.irem, 1) := by decide +kernel
theorem dL_isMended_162 : decode cL_isMended 162 = .ok (.invokevirtual 115, 3) := by decide +kernel
theorem dL_isMended_165 : decode cL_isMended 165 = .ok (.ifCond .ne 7, 3) := by decide +kernel
theorem dL_isMended_168 : decode cL_isMended 168 = .ok (.iconst 1, 1) := by decide +kernel
theorem dL_isMended_169 : decode cL_isMended 169 = .ok (.goto 4, 3) := by decide +kernel
theorem dL_isMended_172 : decode cL_isMended 172 = .ok (.iconst 0, 1) := by decide +kernel
theorem dL_isMended_173 : decode cL_isMended 173 = .ok (.ireturn, 1) := by decide +kernel
theorem dL_isBegun_0 : decode cL_isBegun 0 = .ok (.aload 4, 2) := by decide +kernel
theorem dL_isBegun_2 : decode cL_isBegun 2 = .ok (.bipush 8, 2) := by decide +kernel
theorem dL_isBegun_4 : decode cL_isBegun 4 = .ok (.iaload, 1) := by decide +kernel
theorem dL_isBegun_5 : decode cL_isBegun 5 = .ok (.iconst 1, 1) := by decide +kernel
theorem dL_isBegun_6 : decode cL_isBegun 6 = .ok (.if_icmp .ne 23, 3) := by decide +kernel
theorem dL_isBegun_9 : decode cL_isBegun 9 = .ok (.aload 4, 2) := by decide +kernel
theorem dL_isBegun_11 : decode cL_isBegun 11 = .ok (.iconst 3, 1) := by decide +kernel
theorem dL_isBegun_12 : decode cL_isBegun 12 = .ok (.iaload, 1) := by decide +kernel
theorem dL_isBegun_13 : decode cL_isBegun 13 = .ok (.ifCond .le 16, 3) := by decide +kernel
theorem dL_isBegun_16 : decode cL_isBegun 16 = .ok (.aload 4, 2) := by decide +kernel
theorem dL_isBegun_18 : decode cL_isBegun 18 = .ok (.iconst 3, 1) := by decide +kernel
theorem dL_isBegun_19 : decode cL_isBegun 19 = .ok (.iaload, 1) := by decide +kernel
theorem dL_isBegun_20 : decode cL_isBegun 20 = .ok (.aload 4, 2) := by decide +kernel
theorem dL_isBegun_22 : decode cL_isBegun 22 = .ok (.iconst 4, 1) := by decide +kernel
theorem dL_isBegun_23 : decode cL_isBegun 23 = .ok (.iaload, 1) := by decide +kernel
theorem dL_isBegun_24 : decode cL_isBegun 24 = .ok (.if_icmp .ge 5, 3) := by decide +kernel
theorem dL_isBegun_27 : decode cL_isBegun 27 = .ok (.iconst 1, 1) := by decide +kernel
theorem dL_isBegun_28 : decode cL_isBegun 28 = .ok (.ireturn, 1) := by decide +kernel
theorem dL_isBegun_29 : decode cL_isBegun 29 = .ok (.iconst 0, 1) := by decide +kernel
theorem dL_isBegun_30 : decode cL_isBegun 30 = .ok (.istore 6, 2) := by decide +kernel
theorem dL_isBegun_32 : decode cL_isBegun 32 = .ok (.iload 6, 2) := by decide +kernel
theorem dL_isBegun_34 : decode cL_isBegun 34 = .ok (.bipush 60, 2) := by decide +kernel
theorem dL_isBegun_36 : decode cL_isBegun 36 = .ok (.if_icmp .ge 30, 3) := by decide +kernel
theorem dL_isBegun_39 : decode cL_isBegun 39 = .ok (.aload_n 1, 1) := by decide +kernel
theorem dL_isBegun_40 : decode cL_isBegun 40 = .ok (.iload 6, 2) := by decide +kernel
theorem dL_isBegun_42 : decode cL_isBegun 42 = .ok (.iconst 0, 1) := by decide +kernel
theorem dL_isBegun_43 : decode cL_isBegun 43 = .ok (.iastore, 1) := by decide +kernel
theorem dL_isBegun_44 : decode cL_isBegun 44 = .ok (.aload_n 2, 1) := by decide +kernel
theorem dL_isBegun_45 : decode cL_isBegun 45 = .ok (.iload 6, 2) := by decide +kernel
theorem dL_isBegun_47 : decode cL_isBegun 47 = .ok (.bipush 40, 2) := by decide +kernel
theorem dL_isBegun_49 : decode cL_isBegun 49 = .ok (.irem, 1) := by decide +kernel
theorem dL_isBegun_50 : decode cL_isBegun 50 = .ok (.iconst 0, 1) := by decide +kernel
theorem dL_isBegun_51 : decode cL_isBegun 51 = .ok (.iastore, 1) := by decide +kernel
theorem dL_isBegun_52 : decode cL_isBegun 52 = .ok (.aload_n 3, 1) := by decide +kernel
theorem dL_isBegun_53 : decode cL_isBegun 53 = .ok (.iload 6, 2) := by decide +kernel
theorem dL_isBegun_55 : decode cL_isBegun 55 = .ok (.bipush 40, 2) := by decide +kernel
theorem dL_isBegun_57 : decode cL_isBegun 57 = .ok (.irem, 1) := by decide +kernel
theorem dL_isBegun_58 : decode cL_isBegun 58 = .ok (.iconst 0, 1) := by decide +kernel
theorem dL_isBegun_59 : decode cL_isBegun 59 = .ok (.iastore, 1) := by decide +kernel
theorem dL_isBegun_60 : decode cL_isBegun 60 = .ok (.iinc 6 1, 3) := by decide +kernel
theorem dL_isBegun_63 : decode cL_isBegun 63 = .ok (.goto (-31), 3) := by decide +kernel
theorem dL_isBegun_66 : decode cL_isBegun 66 = .ok (.aload 4, 2) := by decide +kernel
theorem dL_isBegun_68 : decode cL_isBegun 68 = .ok (.iconst 0, 1) := by decide +kernel
theorem dL_isBegun_69 : decode cL_isBegun 69 = .ok (.iload 5, 2) := by decide +kernel
theorem dL_isBegun_71 : decode cL_isBegun 71 = .ok (.iconst 4, 1) := by decide +kernel
theorem dL_isBegun_72 : decode cL_isBegun 72 = .ok (.irem, 1) := by decide +kernel
theorem dL_isBegun_73 : decode cL_isBegun 73 = .ok (.iastore, 1) := by decide +kernel
theorem dL_isBegun_74 : decode cL_isBegun 74 = .ok (.aload 4, 2) := by decide +kernel
theorem dL_isBegun_76 : decode cL_isBegun 76 = .ok (.iconst 1, 1) := by decide +kernel
theorem dL_isBegun_77 : decode cL_isBegun 77 = .ok (.iconst 2, 1) := by decide +kernel
theorem dL_isBegun_78 : decode cL_isBegun 78 = .ok (.iload 5, 2) := by decide +kernel
theorem dL_isBegun_80 : decode cL_isBegun 80 = .ok (.iconst 4, 1) := by decide +kernel
theorem dL_isBegun_81 : decode cL_isBegun 81 = .ok (.idiv, 1) := by decide +kernel
theorem dL_isBegun_82 : decode cL_isBegun 82 = .ok (.bipush 6, 2) := by decide +kernel
theorem dL_isBegun_84 : decode cL_isBegun 84 = .ok (.irem, 1) := by decide +kernel
theorem dL_isBegun_85 : decode cL_isBegun 85 = .ok (.iadd, 1) := by decide +kernel
theorem dL_isBegun_86 : decode cL_isBegun 86 = .ok (.iastore, 1) := by decide +kernel
theorem dL_isBegun_87 : decode cL_isBegun 87 = .ok (.aload 4, 2) := by decide +kernel
theorem dL_isBegun_89 : decode cL_isBegun 89 = .ok (.iconst 2, 1) := by decide +kernel
theorem dL_isBegun_90 : decode cL_isBegun 90 = .ok (.iconst 2, 1) := by decide +kernel
theorem dL_isBegun_91 : decode cL_isBegun 91 = .ok (.iload 5, 2) := by decide +kernel
theorem dL_isBegun_93 : decode cL_isBegun 93 = .ok (.bipush 24, 2) := by decide +kernel
theorem dL_isBegun_95 : decode cL_isBegun 95 = .ok (.idiv, 1) := by decide +kernel
theorem dL_isBegun_96 : decode cL_isBegun 96 = .ok (.bipush 6, 2) := by decide +kernel
theorem dL_isBegun_98 : decode cL_isBegun 98 = .ok (.irem, 1) := by decide +kernel
theorem dL_isBegun_99 : decode cL_isBegun 99 = .ok (.iadd, 1) := by decide +kernel
theorem dL_isBegun_100 : decode cL_isBegun 100 = .ok (.iastore, 1) := by decide +kernel
theorem dL_isBegun_101 : decode cL_isBegun 101 = .ok (.aload 4, 2) := by decide +kernel
theorem dL_isBegun_103 : decode cL_isBegun 103 = .ok (.iconst 3, 1) := by decide +kernel
theorem dL_isBegun_104 : decode cL_isBegun 104 = .ok (.iconst 0, 1) := by decide +kernel
theorem dL_isBegun_105 : decode cL_isBegun 105 = .ok (.iastore, 1) := by decide +kernel
theorem dL_isBegun_106 : decode cL_isBegun 106 = .ok (.aload 4, 2) := by decide +kernel
theorem dL_isBegun_108 : decode cL_isBegun 108 = .ok (.iconst 4, 1) := by decide +kernel
theorem dL_isBegun_109 : decode cL_isBegun 109 = .ok (.iconst 2, 1) := by decide +kernel
theorem dL_isBegun_110 : decode cL_isBegun 110 = .ok (.iload 5, 2) := by decide +kernel
theorem dL_isBegun_112 : decode cL_isBegun 112 = .ok (.sipush 144, 3) := by decide +kernel
theorem dL_isBegun_115 : decode cL_isBegun 115 = .ok (.idiv, 1) := by decide +kernel
theorem dL_isBegun_116 : decode cL_isBegun 116 = .ok (.bipush 9, 2) := by decide +kernel
theorem dL_isBegun_118 : decode cL_isBegun 118 = .ok (.irem, 1) := by decide +kernel
theorem dL_isBegun_119 : decode cL_isBegun 119 = .ok (.iadd, 1) := by decide +kernel
theorem dL_isBegun_120 : decode cL_isBegun 120 = .ok (.iastore, 1) := by decide +kernel
theorem dL_isBegun_121 : decode cL_isBegun 121 = .ok (.aload 4, 2) := by decide +kernel
theorem dL_isBegun_123 : decode cL_isBegun 123 = .ok (.iconst 5, 1) := by decide +kernel
theorem dL_isBegun_124 : decode cL_isBegun 124 = .ok (.iconst 0, 1) := by decide +kernel
theorem dL_isBegun_125 : decode cL_isBegun 125 = .ok (.iastore, 1) := by decide +kernel
theorem dL_isBegun_126 : decode cL_isBegun 126 = .ok (.aload 4, 2) := by decide +kernel
theorem dL_isBegun_128 : decode cL_isBegun 128 = .ok (.bipush 7, 2) := by decide +kernel
theorem dL_isBegun_130 : decode cL_isBegun 130 = .ok (.iconst 0, 1) := by decide +kernel
theorem dL_isBegun_131 : decode cL_isBegun 131 = .ok (.iastore, 1) := by decide +kernel
theorem dL_isBegun_132 : decode cL_isBegun 132 = .ok (.aload 4, 2) := by decide +kernel
theorem dL_isBegun_134 : decode cL_isBegun 134 = .ok (.bipush 8, 2) := by decide +kernel
theorem dL_isBegun_136 : decode cL_isBegun 136 = .ok (.iconst 1, 1) := by decide +kernel
theorem dL_isBegun_137 : decode cL_isBegun 137 = .ok (.iastore, 1) := by decide +kernel
theorem dL_isBegun_138 : decode cL_isBegun 138 = .ok (.aload_n 0, 1) := by decide +kernel
theorem dL_isBegun_139 : decode cL_isBegun 139 = .ok (.aload 4, 2) := by decide +kernel
theorem dL_isBegun_141 : decode cL_isBegun 141 = .ok (.iconst 4, 1) := by decide +kernel
theorem dL_isBegun_142 : decode cL_isBegun 142 = .ok (.iaload, 1) := by decide +kernel
theorem dL_isBegun_143 : decode cL_isBegun 143 = .ok (.aload 4, 2) := by decide +kernel
theorem dL_isBegun_145 : decode cL_isBegun 145 = .ok (.iconst 0, 1) := by decide +kernel
theorem dL_isBegun_146 : decode cL_isBegun 146 = .ok (.iaload, 1) := by decide +kernel
theorem dL_isBegun_147 : decode cL_isBegun 147 = .ok (.aload 4, 2) := by decide +kernel
theorem dL_isBegun_149 : decode cL_isBegun 149 = .ok (.iconst 1, 1) := by decide +kernel
theorem dL_isBegun_150 : decode cL_isBegun 150 = .ok (.iaload, 1) := by decide +kernel
theorem dL_isBegun_151 : decode cL_isBegun 151 = .ok (.aload 4, 2) := by decide +kernel
theorem dL_isBegun_153 : decode cL_isBegun 153 = .ok (.iconst 2, 1) := by decide +kernel
theorem dL_isBegun_154 : decode cL_isBegun 154 = .ok (.iaload, 1) := by decide +kernel
theorem dL_isBegun_155 : decode cL_isBegun 155 = .ok (.invokevirtual 118, 3) := by decide +kernel
theorem dL_isBegun_158 : decode cL_isBegun 158 = .ok (.iconst 1, 1) := by decide +kernel
theorem dL_isBegun_159 : decode cL_isBegun 159 = .ok (.ireturn, 1) := by decide +kernel
theorem dL_isTold_0 : decode cL_isTold 0 = .ok (.iload 8, 2) := by decide +kernel
theorem dL_isTold_2 : decode cL_isTold 2 = .ok (.ifCond .ne 89, 3) := by decide +kernel
theorem dL_isTold_5 : decode cL_isTold 5 = .ok (.iload 9, 2) := by decide +kernel
theorem dL_isTold_7 : decode cL_isTold 7 = .ok (.bipush 16, 2) := by decide +kernel
theorem dL_isTold_9 : decode cL_isTold 9 = .ok (.irem, 1) := by decide +kernel
theorem dL_isTold_10 : decode cL_isTold 10 = .ok (.istore 10, 2) := by decide +kernel
theorem dL_isTold_12 : decode cL_isTold 12 = .ok (.iload 10, 2) := by decide +kernel
theorem dL_isTold_14 : decode cL_isTold 14 = .ok (.iconst 1, 1) := by decide +kernel
theorem dL_isTold_15 : decode cL_isTold 15 = .ok (.iadd, 1) := by decide +kernel
theorem dL_isTold_16 : decode cL_isTold 16 = .ok (.iload 9, 2) := by decide +kernel
theorem dL_isTold_18 : decode cL_isTold 18 = .ok (.bipush 16, 2) := by decide +kernel
theorem dL_isTold_20 : decode cL_isTold 20 = .ok (.idiv, 1) := by decide +kernel
theorem dL_isTold_21 : decode cL_isTold 21 = .ok (.bipush 15, 2) := by decide +kernel
theorem dL_isTold_23 : decode cL_isTold 23 = .ok (.irem, 1) := by decide +kernel
theorem dL_isTold_24 : decode cL_isTold 24 = .ok (.iadd, 1) := by decide +kernel
theorem dL_isTold_25 : decode cL_isTold 25 = .ok (.bipush 16, 2) := by decide +kernel
theorem dL_isTold_27 : decode cL_isTold 27 = .ok (.irem, 1) := by decide +kernel
theorem dL_isTold_28 : decode cL_isTold 28 = .ok (.istore 11, 2) := by decide +kernel
theorem dL_isTold_30 : decode cL_isTold 30 = .ok (.aload_n 1, 1) := by decide +kernel
theorem dL_isTold_31 : decode cL_isTold 31 = .ok (.iload 10, 2) := by decide +kernel
theorem dL_isTold_33 : decode cL_isTold 33 = .ok (.iaload, 1) := by decide +kernel
theorem dL_isTold_34 : decode cL_isTold 34 = .ok (.iload 11, 2) := by decide +kernel
theorem dL_isTold_36 : decode cL_isTold 36 = .ok (.ishr, 1) := by decide +kernel
theorem dL_isTold_37 : decode cL_isTold 37 = .ok (.iconst 1, 1) := by decide +kernel
theorem dL_isTold_38 : decode cL_isTold 38 = .ok (.iand, 1) := by decide +kernel
theorem dL_isTold_39 : decode cL_isTold 39 = .ok (.iconst 1, 1) := by decide +kernel
theorem dL_isTold_40 : decode cL_isTold 40 = .ok (.if_icmp .ne 7, 3) := by decide +kernel
theorem dL_isTold_43 : decode cL_isTold 43 = .ok (.iconst 1, 1) := by decide +kernel
theorem dL_isTold_44 : decode cL_isTold 44 = .ok (.goto 4, 3) := by decide +kernel
theorem dL_isTold_47 : decode cL_isTold 47 = .ok (.iconst 0, 1) := by decide +kernel
theorem dL_isTold_48 : decode cL_isTold 48 = .ok (.istore 12, 2) := by decide +kernel
theorem dL_isTold_50 : decode cL_isTold 50 = .ok (.aload_n 1, 1) := by decide +kernel
theorem dL_isTold_51 : decode cL_isTold 51 = .ok (.iload 10, 2) := by decide +kernel
theorem dL_isTold_53 : decode cL_isTold 53 = .ok (.dup2, 1) := by decide +kernel
theorem dL_isTold_54 : decode cL_isTold 54 = .ok (.iaload, 1) := by decide +kernel
theorem dL_isTold_55 : decode cL_isTold 55 = .ok (.iconst 1, 1) := by decide +kernel
theorem dL_isTold_56 : decode cL_isTold 56 = .ok (.iload 11, 2) := by decide +kernel
theorem dL_isTold_58 : decode cL_isTold 58 = .ok (.ishl, 1) := by decide +kernel
theorem dL_isTold_59 : decode cL_isTold 59 = .ok (.ior, 1) := by decide +kernel
theorem dL_isTold_60 : decode cL_isTold 60 = .ok (.iastore, 1) := by decide +kernel
theorem dL_isTold_61 : decode cL_isTold 61 = .ok (.aload_n 1, 1) := by decide +kernel
theorem dL_isTold_62 : decode cL_isTold 62 = .ok (.iload 11, 2) := by decide +kernel
theorem dL_isTold_64 : decode cL_isTold 64 = .ok (.dup2, 1) := by decide +kernel
theorem dL_isTold_65 : decode cL_isTold 65 = .ok (.iaload, 1) := by decide +kernel
theorem dL_isTold_66 : decode cL_isTold 66 = .ok (.iconst 1, 1) := by decide +kernel
theorem dL_isTold_67 : decode cL_isTold 67 = .ok (.iload 10, 2) := by decide +kernel
theorem dL_isTold_69 : decode cL_isTold 69 = .ok (.ishl, 1) := by decide +kernel
theorem dL_isTold_70 : decode cL_isTold 70 = .ok (.ior, 1) := by decide +kernel
theorem dL_isTold_71 : decode cL_isTold 71 = .ok (.iastore, 1) := by decide +kernel
theorem dL_isTold_72 : decode cL_isTold 72 = .ok (.aload_n 0, 1) := by decide +kernel
theorem dL_isTold_73 : decode cL_isTold 73 = .ok (.iload 10, 2) := by decide +kernel
theorem dL_isTold_75 : decode cL_isTold 75 = .ok (.iload 11, 2) := by decide +kernel
theorem dL_isTold_77 : decode cL_isTold 77 = .ok (.invokevirtual 122, 3) := by decide +kernel
theorem dL_isTold_80 : decode cL_isTold 80 = .ok (.iload 12, 2) := by decide +kernel
theorem dL_isTold_82 : decode cL_isTold 82 = .ok (.if_icmp .ne 7, 3) := by decide +kernel
theorem dL_isTold_85 : decode cL_isTold 85 = .ok (.iconst 1, 1) := by decide +kernel
theorem dL_isTold_86 : decode cL_isTold 86 = .ok (.goto 4, 3) := by decide +kernel
theorem dL_isTold_89 : decode cL_isTold 89 = .ok (.iconst 0, 1) := by decide +kernel
theorem dL_isTold_90 : decode cL_isTold 90 = .ok (.ireturn, 1) := by decide +kernel
theorem dL_isTold_91 : decode cL_isTold 91 = .ok (.iload 8, 2) := by decide +kernel
theorem dL_isTold_93 : decode cL_isTold 93 = .ok (.iconst 1, 1) := by decide +kernel
theorem dL_isTold_94 : decode cL_isTold 94 = .ok (.if_icmp .ne 116, 3) := by decide +kernel
theorem dL_isTold_97 : decode cL_isTold 97 = .ok (.aload 5, 2) := by decide +kernel
theorem dL_isTold_99 : decode cL_isTold 99 = .ok (.bipush 8, 2) := by decide +kernel
theorem dL_isTold_101 : decode cL_isTold 101 = .ok (.iaload, 1) := by decide +kernel
theorem dL_isTold_102 : decode cL_isTold 102 = .ok (.ifCond .eq 21, 3) := by decide +kernel
theorem dL_isTold_105 : decode cL_isTold 105 = .ok (.aload 5, 2) := by decide +kernel
theorem dL_isTold_107 : decode cL_isTold 107 = .ok (.iconst 3, 1) := by decide +kernel
theorem dL_isTold_108 : decode cL_isTold 108 = .ok (.iaload, 1) := by decide +kernel
theorem dL_isTold_109 : decode cL_isTold 109 = .ok (.aload 5, 2) := by decide +kernel
theorem dL_isTold_111 : decode cL_isTold 111 = .ok (.iconst 4, 1) := by decide +kernel
theorem dL_isTold_112 : decode cL_isTold 112 = .ok (.iaload, 1) := by decide +kernel
theorem dL_isTold_113 : decode cL_isTold 113 = .ok (.if_icmp .eq 10, 3) := by decide +kernel
theorem dL_isTold_116 : decode cL_isTold 116 = .ok (.aload 5, 2) := by decide +kernel
theorem dL_isTold_118 : decode cL_isTold 118 = .ok (.iconst 5, 1) := by decide +kernel
theorem dL_isTold_119 : decode cL_isTold 119 = .ok (.iaload, 1) := by decide +kernel
theorem dL_isTold_120 : decode cL_isTold 120 = .ok (.ifCond .le 5, 3) := by decide +kernel
theorem dL_isTold_123 : decode cL_isTold 123 = .ok (.iconst 1, 1) := by decide +kernel
theorem dL_isTold_124 : decode cL_isTold 124 = .ok (.ireturn, 1) := by decide +kernel
theorem dL_isTold_125 : decode cL_isTold 125 = .ok (.aload 5, 2) := by decide +kernel
theorem dL_isTold_127 : decode cL_isTold 127 = .ok (.iconst 3, 1) := by decide +kernel
theorem dL_isTold_128 : decode cL_isTold 128 = .ok (.iaload, 1) := by decide +kernel
theorem dL_isTold_129 : decode cL_isTold 129 = .ok (.iload 9, 2) := by decide +kernel
theorem dL_isTold_131 : decode cL_isTold 131 = .ok (.aload 5, 2) := by decide +kernel
theorem dL_isTold_133 : decode cL_isTold 133 = .ok (.iconst 4, 1) := by decide +kernel
theorem dL_isTold_134 : decode cL_isTold 134 = .ok (.iaload, 1) := by decide +kernel
theorem dL_isTold_135 : decode cL_isTold 135 = .ok (.aload 5, 2) := by decide +kernel
theorem dL_isTold_137 : decode cL_isTold 137 = .ok (.iconst 3, 1) := by decide +kernel
theorem dL_isTold_138 : decode cL_isTold 138 = .ok (.iaload, 1) := by decide +kernel
theorem dL_isTold_139 : decode cL_isTold 139 = .ok (.isub, 1) := by decide +kernel
theorem dL_isTold_140 : decode cL_isTold 140 = .ok (.irem, 1) := by decide +kernel
theorem dL_isTold_141 : decode cL_isTold 141 = .ok (.iadd, 1) := by decide +kernel
theorem dL_isTold_142 : decode cL_isTold 142 = .ok (.istore 10, 2) := by decide +kernel
theorem dL_isTold_144 : decode cL_isTold 144 = .ok (.aload_n 3, 1) := by decide +kernel
theorem dL_isTold_145 : decode cL_isTold 145 = .ok (.iconst 4, 1) := by decide +kernel
theorem dL_isTold_146 : decode cL_isTold 146 = .ok (.iload 10, 2) := by decide +kernel
theorem dL_isTold_148 : decode cL_isTold 148 = .ok (.imul, 1) := by decide +kernel
theorem dL_isTold_149 : decode cL_isTold 149 = .ok (.iconst 1, 1) := by decide +kernel
theorem dL_isTold_150 : decode cL_isTold 150 = .ok (.iadd, 1) := by decide +kernel
theorem dL_isTold_151 : decode cL_isTold 151 = .ok (.iaload, 1) := by decide +kernel
theorem dL_isTold_152 : decode cL_isTold 152 = .ok (.istore 11, 2) := by decide +kernel
theorem dL_isTold_154 : decode cL_isTold 154 = .ok (.aload_n 3, 1) := by decide +kernel
theorem dL_isTold_155 : decode cL_isTold 155 = .ok (.iconst 4, 1) := by decide +kernel
theorem dL_isTold_156 : decode cL_isTold 156 = .ok (.iload 10, 2) := by decide +kernel
theorem dL_isTold_158 : decode cL_isTold 158 = .ok (.imul, 1) := by decide +kernel
theorem dL_isTold_159 : decode cL_isTold 159 = .ok (.iconst 1, 1) := by decide +kernel
theorem dL_isTold_160 : decode cL_isTold 160 = .ok (.iadd, 1) := by decide +kernel
theorem dL_isTold_161 : decode cL_isTold 161 = .ok (.iload 9, 2) := by decide +kernel
theorem dL_isTold_163 : decode cL_isTold 163 = .ok (.bipush 10, 2) := by decide +kernel
theorem dL_isTold_165 : decode cL_isTold 165 = .ok (.idiv, 1) := by decide +kernel
theorem dL_isTold_166 : decode cL_isTold 166 = .ok (.bipush 6, 2) := by decide +kernel
theorem dL_isTold_168 : decode cL_isTold 168 = .ok (.irem, 1) := by decide +kernel
theorem dL_isTold_169 : decode cL_isTold 169 = .ok (.iconst 2, 1) := by decide +kernel
theorem dL_isTold_170 : decode cL_isTold 170 = .ok (.if_icmp .le 7, 3) := by decide +kernel
theorem dL_isTold_173 : decode cL_isTold 173 = .ok (.iconst 0, 1) := by decide +kernel
theorem dL_isTold_174 : decode cL_isTold 174 = .ok (.goto 10, 3) := by decide +kernel
theorem dL_isTold_177 : decode cL_isTold 177 = .ok (.iload 9, 2) := by decide +kernel
theorem dL_isTold_179 : decode cL_isTold 179 = .ok (.bipush 10, 2) := by decide +kernel
theorem dL_isTold_181 : decode cL_isTold 181 = .ok (.idiv, 1) := by decide +kernel
theorem dL_isTold_182 : decode cL_isTold 182 = .ok (.iconst 3, 1) := by decide +kernel
theorem dL_isTold_183 : decode cL_isTold 183 = .ok (.irem, 1) := by decide +kernel
theorem dL_isTold_184 : decode cL_isTold 184 = .ok (.iastore, 1) := by decide +kernel
theorem dL_isTold_185 : decode cL_isTold 185 = .ok (.aload_n 0, 1) := by decide +kernel
theorem dL_isTold_186 : decode cL_isTold 186 = .ok (.iload 10, 2) := by decide +kernel
theorem dL_isTold_188 : decode cL_isTold 188 = .ok (.aload_n 3, 1) := by decide +kernel
theorem dL_isTold_189 : decode cL_isTold 189 = .ok (.iconst 4, 1) := by decide +kernel
theorem dL_isTold_190 : decode cL_isTold 190 = .ok (.iload 10, 2) := by decide +kernel
theorem dL_isTold_192 : decode cL_isTold 192 = .ok (.imul, 1) := by decide +kernel
theorem dL_isTold_193 : decode cL_isTold 193 = .ok (.iconst 1, 1) := by decide +kernel
theorem dL_isTold_194 : decode cL_isTold 194 = .ok (.iadd, 1) := by decide +kernel
theorem dL_isTold_195 : decode cL_isTold 195 = .ok (.iaload, 1) := by decide +kernel
theorem dL_isTold_196 : decode cL_isTold 196 = .ok (.invokevirtual 126, 3) := by decide +kernel
theorem dL_isTold_199 : decode cL_isTold 199 = .ok (.iload 11, 2) := by decide +kernel
theorem dL_isTold_201 : decode cL_isTold 201 = .ok (.if_icmp .ne 7, 3) := by decide +kernel
theorem dL_isTold_204 : decode cL_isTold 204 = .ok (.iconst 1, 1) := by decide +kernel
theorem dL_isTold_205 : decode cL_isTold 205 = .ok (.goto 4, 3) := by decide +kernel
theorem dL_isTold_208 : decode cL_isTold 208 = .ok (.iconst 0, 1) := by decide +kernel
theorem dL_isTold_209 : decode cL_isTold 209 = .ok (.ireturn, 1) := by decide +kernel
theorem dL_isTold_210 : decode cL_isTold 210 = .ok (.aload 5, 2) := by decide +kernel
theorem dL_isTold_212 : decode cL_isTold 212 = .ok (.iconst 3, 1) := by decide +kernel
theorem dL_isTold_213 : decode cL_isTold 213 = .ok (.iaload, 1) := by decide +kernel
theorem dL_isTold_214 : decode cL_isTold 214 = .ok (.ifCond .ne 5, 3) := by decide +kernel
theorem dL_isTold_217 : decode cL_isTold 217 = .ok (.iconst 1, 1) := by decide +kernel
theorem dL_isTold_218 : decode cL_isTold 218 = .ok (.ireturn, 1) := by decide +kernel
theorem dL_isTold_219 : decode cL_isTold 219 = .ok (.iload 9, 2) := by decide +kernel
theorem dL_isTold_221 : decode cL_isTold 221 = .ok (.aload 5, 2) := by decide +kernel
theorem dL_isTold_223 : decode cL_isTold 223 = .ok (.iconst 3, 1) := by decide +kernel
theorem dL_isTold_224 : decode cL_isTold 224 = .ok (.iaload, 1) := by decide +kernel
theorem dL_isTold_225 : decode cL_isTold 225 = .ok (.irem, 1) := by decide +kernel
theorem dL_isTold_226 : decode cL_isTold 226 = .ok (.istore 10, 2) := by decide +kernel
theorem dL_isTold_228 : decode cL_isTold 228 = .ok (.iload 8, 2) := by decide +kernel
theorem dL_isTold_230 : decode cL_isTold 230 = .ok (.iconst 2, 1) := by decide +kernel
theorem dL_isTold_231 : decode cL_isTold 231 = .ok (.if_icmp .ne 73, 3) := by decide +kernel
theorem dL_isTold_234 : decode cL_isTold 234 = .ok (.bipush 10, 2) := by decide +kernel
theorem dL_isTold_236 : decode cL_isTold 236 = .ok (.iload 9, 2) := by decide +kernel
theorem dL_isTold_238 : decode cL_isTold 238 = .ok (.bipush 10, 2) := by decide +kernel
theorem dL_isTold_240 : decode cL_isTold 240 = .ok (.idiv, 1) := by decide +kernel
theorem dL_isTold_241 : decode cL_isTold 241 = .ok (.iconst 4, 1) := by decide +kernel
theorem dL_isTold_242 : decode cL_isTold 242 = .ok (.irem, 1) := by decide +kernel
theorem dL_isTold_243 : decode cL_isTold 243 = .ok (.imul, 1) := by decide +kernel
theorem dL_isTold_244 : decode cL_isTold 244 = .ok (.iload 10, 2) := by decide +kernel
theorem dL_isTold_246 : decode cL_isTold 246 = .ok (.iadd, 1) := by decide +kernel
theorem dL_isTold_247 : decode cL_isTold 247 = .ok (.istore 11, 2) := by decide +kernel
theorem dL_isTold_249 : decode cL_isTold 249 = .ok (.aload 4, 2) := by decide +kernel
theorem dL_isTold_251 : decode cL_isTold 251 = .ok (.iload 11, 2) := by decide +kernel
theorem dL_isTold_253 : decode cL_isTold 253 = .ok (.iaload, 1) := by decide +kernel
theorem dL_isTold_254 : decode cL_isTold 254 = .ok (.iconst 1, 1) := by decide +kernel
theorem dL_isTold_255 : decode cL_isTold 255 = .ok (.isub, 1) := by decide +kernel
theorem dL_isTold_256 : decode cL_isTold 256 = .ok (.istore 12, 2) := by decide +kernel
theorem dL_isTold_258 : decode cL_isTold 258 = .ok (.aload 4, 2) := by decide +kernel
theorem dL_isTold_260 : decode cL_isTold 260 = .ok (.iload 11, 2) := by decide +kernel
theorem dL_isTold_262 : decode cL_isTold 262 = .ok (.iconst 1, 1) := by decide +kernel
theorem dL_isTold_263 : decode cL_isTold 263 = .ok (.iload 9, 2) := by decide +kernel
theorem dL_isTold_265 : decode cL_isTold 265 = .ok (.bipush 40, 2) := by decide +kernel
theorem dL_isTold_267 : decode cL_isTold 267 = .ok (.idiv, 1) := by decide +kernel
theorem dL_isTold_268 : decode cL_isTold 268 = .ok (.bipush 11, 2) := by decide +kernel
theorem dL_isTold_270 : decode cL_isTold 270 = .ok (.irem, 1) := by decide +kernel
theorem dL_isTold_271 : decode cL_isTold 271 = .ok (.iadd, 1) := by decide +kernel
theorem dL_isTold_272 : decode cL_isTold 272 = .ok (.iastore, 1) := by decide +kernel
theorem dL_isTold_273 : decode cL_isTold 273 = .ok (.aload_n 0, 1) := by decide +kernel
theorem dL_isTold_274 : decode cL_isTold 274 = .ok (.iload 9, 2) := by decide +kernel
theorem dL_isTold_276 : decode cL_isTold 276 = .ok (.bipush 10, 2) := by decide +kernel
theorem dL_isTold_278 : decode cL_isTold 278 = .ok (.idiv, 1) := by decide +kernel
theorem dL_isTold_279 : decode cL_isTold 279 = .ok (.iconst 4, 1) := by decide +kernel
theorem dL_isTold_280 : decode cL_isTold 280 = .ok (.irem, 1) := by decide +kernel
theorem dL_isTold_281 : decode cL_isTold 281 = .ok (.iload 10, 2) := by decide +kernel
theorem dL_isTold_283 : decode cL_isTold 283 = .ok (.aload 4, 2) := by decide +kernel
theorem dL_isTold_285 : decode cL_isTold 285 = .ok (.iload 11, 2) := by decide +kernel
theorem dL_isTold_287 : decode cL_isTold 287 = .ok (.iaload, 1) := by decide +kernel
theorem dL_isTold_288 : decode cL_isTold 288 = .ok (.iconst 1, 1) := by decide +kernel
theorem dL_isTold_289 : decode cL_isTold 289 = .ok (.isub, 1) := by decide +kernel
theorem dL_isTold_290 : decode cL_isTold 290 = .ok (.invokevirtual 128, 3) := by decide +kernel
theorem dL_isTold_293 : decode cL_isTold 293 = .ok (.iload 12, 2) := by decide +kernel
theorem dL_isTold_295 : decode cL_isTold 295 = .ok (.if_icmp .ne 7, 3) := by decide +kernel
theorem dL_isTold_298 : decode cL_isTold 298 = .ok (.iconst 1, 1) := by decide +kernel
theorem dL_isTold_299 : decode cL_isTold 299 = .ok (.goto 4, 3) := by decide +kernel
theorem dL_isTold_302 : decode cL_isTold 302 = .ok (.iconst 0, 1) := by decide +kernel
theorem dL_isTold_303 : decode cL_isTold 303 = .ok (.ireturn, 1) := by decide +kernel
theorem dL_isTold_304 : decode cL_isTold 304 = .ok (.iload 8, 2) := by decide +kernel
theorem dL_isTold_306 : decode cL_isTold 306 = .ok (.iconst 3, 1) := by decide +kernel
theorem dL_isTold_307 : decode cL_isTold 307 = .ok (.if_icmp .ne 70, 3) := by decide +kernel
theorem dL_isTold_310 : decode cL_isTold 310 = .ok (.aload_n 3, 1) := by decide +kernel
theorem dL_isTold_311 : decode cL_isTold 311 = .ok (.iconst 4, 1) := by decide +kernel
theorem dL_isTold_312 : decode cL_isTold 312 = .ok (.iload 10, 2) := by decide +kernel
theorem dL_isTold_314 : decode cL_isTold 314 = .ok (.imul, 1) := by decide +kernel
theorem dL_isTold_315 : decode cL_isTold 315 = .ok (.iconst 2, 1) := by decide +kernel
theorem dL_isTold_316 : decode cL_isTold 316 = .ok (.iadd, 1) := by decide +kernel
theorem dL_isTold_317 : decode cL_isTold 317 = .ok (.iaload, 1) := by decide +kernel
theorem dL_isTold_318 : decode cL_isTold 318 = .ok (.iconst 1, 1) := by decide +kernel
theorem dL_isTold_319 : decode cL_isTold 319 = .ok (.if_icmp .ne 7, 3) := by decide +kernel
theorem dL_isTold_322 : decode cL_isTold 322 = .ok (.iconst 1, 1) := by decide +kernel
theorem dL_isTold_323 : decode cL_isTold 323 = .ok (.goto 4, 3) := by decide +kernel
theorem dL_isTold_326 : decode cL_isTold 326 = .ok (.iconst 0, 1) := by decide +kernel
theorem dL_isTold_327 : decode cL_isTold 327 = .ok (.istore 11, 2) := by decide +kernel
theorem dL_isTold_329 : decode cL_isTold 329 = .ok (.aload_n 3, 1) := by decide +kernel
theorem dL_isTold_330 : decode cL_isTold 330 = .ok (.iconst 4, 1) := by decide +kernel
theorem dL_isTold_331 : decode cL_isTold 331 = .ok (.iload 10, 2) := by decide +kernel
theorem dL_isTold_333 : decode cL_isTold 333 = .ok (.imul, 1) := by decide +kernel
theorem dL_isTold_334 : decode cL_isTold 334 = .ok (.iconst 2, 1) := by decide +kernel
theorem dL_isTold_335 : decode cL_isTold 335 = .ok (.iadd, 1) := by decide +kernel
theorem dL_isTold_336 : decode cL_isTold 336 = .ok (.iload 9, 2) := by decide +kernel
theorem dL_isTold_338 : decode cL_isTold 338 = .ok (.bipush 10, 2) := by decide +kernel
theorem dL_isTold_340 : decode cL_isTold 340 = .ok (.idiv, 1) := by decide +kernel
theorem dL_isTold_341 : decode cL_isTold 341 = .ok (.iconst 2, 1) := by decide +kernel
theorem dL_isTold_342 : decode cL_isTold 342 = .ok (.irem, 1) := by decide +kernel
theorem dL_isTold_343 : decode cL_isTold 343 = .ok (.iastore, 1) := by decide +kernel
theorem dL_isTold_344 : decode cL_isTold 344 = .ok (.aload_n 0, 1) := by decide +kernel
theorem dL_isTold_345 : decode cL_isTold 345 = .ok (.iload 10, 2) := by decide +kernel
theorem dL_isTold_347 : decode cL_isTold 347 = .ok (.iload 9, 2) := by decide +kernel
theorem dL_isTold_349 : decode cL_isTold 349 = .ok (.bipush 10, 2) := by decide +kernel
theorem dL_isTold_351 : decode cL_isTold 351 = .ok (.idiv, 1) := by decide +kernel
theorem dL_isTold_352 : decode cL_isTold 352 = .ok (.iconst 2, 1) := by decide +kernel
theorem dL_isTold_353 : decode cL_isTold 353 = .ok (.irem, 1) := by decide +kernel
theorem dL_isTold_354 : decode cL_isTold 354 = .ok (.iconst 1, 1) := by decide +kernel
theorem dL_isTold_355 : decode cL_isTold 355 = .ok (.if_icmp .ne 7, 3) := by decide +kernel
theorem dL_isTold_358 : decode cL_isTold 358 = .ok (.iconst 1, 1) := by decide +kernel
theorem dL_isTold_359 : decode cL_isTold 359 = .ok (.goto 4, 3) := by decide +kernel
theorem dL_isTold_362 : decode cL_isTold 362 = .ok (.iconst 0, 1) := by decide +kernel
theorem dL_isTold_363 : decode cL_isTold 363 = .ok (.invokevirtual 132, 3) := by decide +kernel
theorem dL_isTold_366 : decode cL_isTold 366 = .ok (.iload 11, 2) := by decide +kernel
theorem dL_isTold_368 : decode cL_isTold 368 = .ok (.if_icmp .ne 7, 3) := by decide +kernel
theorem dL_isTold_371 : decode cL_isTold 371 = .ok (.iconst 1, 1) := by decide +kernel
theorem dL_isTold_372 : decode cL_isTold 372 = .ok (.goto 4, 3) := by decide +kernel
theorem dL_isTold_375 : decode cL_isTold 375 = .ok (.iconst 0, 1) := by decide +kernel
theorem dL_isTold_376 : decode cL_isTold 376 = .ok (.ireturn, 1) := by decide +kernel
theorem dL_isTold_377 : decode cL_isTold 377 = .ok (.aload 5, 2) := by decide +kernel
theorem dL_isTold_379 : decode cL_isTold 379 = .ok (.bipush 7, 2) := by decide +kernel
theorem dL_isTold_381 : decode cL_isTold 381 = .ok (.iaload, 1) := by decide +kernel
theorem dL_isTold_382 : decode cL_isTold 382 = .ok (.iconst 2, 1) := by decide +kernel
theorem dL_isTold_383 : decode cL_isTold 383 = .ok (.if_icmp .ge 125, 3) := by decide +kernel
theorem dL_isTold_386 : decode cL_isTold 386 = .ok (.iload 9, 2) := by decide +kernel
theorem dL_isTold_388 : decode cL_isTold 388 = .ok (.bipush 10, 2) := by decide +kernel
theorem dL_isTold_390 : decode cL_isTold 390 = .ok (.idiv, 1) := by decide +kernel
theorem dL_isTold_391 : decode cL_isTold 391 = .ok (.iconst 2, 1) := by decide +kernel
theorem dL_isTold_392 : decode cL_isTold 392 = .ok (.irem, 1) := by decide +kernel
theorem dL_isTold_393 : decode cL_isTold 393 = .ok (.ifCond .ne 115, 3) := by decide +kernel
theorem dL_isTold_396 : decode cL_isTold 396 = .ok (.aload 5, 2) := by decide +kernel
theorem dL_isTold_398 : decode cL_isTold 398 = .ok (.bipush 7, 2) := by decide +kernel
theorem dL_isTold_400 : decode cL_isTold 400 = .ok (.iaload, 1) := by decide +kernel
theorem dL_isTold_401 : decode cL_isTold 401 = .ok (.ifCond .ne 8, 3) := by decide +kernel
theorem dL_isTold_404 : decode cL_isTold 404 = .ok (.aload 6, 2) := by decide +kernel
theorem dL_isTold_406 : decode cL_isTold 406 = .ok (.goto 5, 3) := by decide +kernel
theorem dL_isTold_409 : decode cL_isTold 409 = .ok (.aload 7, 2) := by decide +kernel
theorem dL_isTold_411 : decode cL_isTold 411 = .ok (.astore 11, 2) := by decide +kernel
theorem dL_isTold_413 : decode cL_isTold 413 = .ok (.aload 5, 2) := by decide +kernel
theorem dL_isTold_415 : decode cL_isTold 415 = .ok (.bipush 7, 2) := by decide +kernel
theorem dL_isTold_417 : decode cL_isTold 417 = .ok (.iaload, 1) := by decide +kernel
theorem dL_isTold_418 : decode cL_isTold 418 = .ok (.iconst 1, 1) := by decide +kernel
theorem dL_isTold_419 : decode cL_isTold 419 = .ok (.if_icmp .ne 17, 3) := by decide +kernel
theorem dL_isTold_422 : decode cL_isTold 422 = .ok (.iload 9, 2) := by decide +kernel
theorem dL_isTold_424 : decode cL_isTold 424 = .ok (.bipush 20, 2) := by decide +kernel
theorem dL_isTold_426 : decode cL_isTold 426 = .ok (.idiv, 1) := by decide +kernel
theorem dL_isTold_427 : decode cL_isTold 427 = .ok (.iconst 2, 1) := by decide +kernel
theorem dL_isTold_428 : decode cL_isTold 428 = .ok (.irem, 1) := by decide +kernel
theorem dL_isTold_429 : decode cL_isTold 429 = .ok (.ifCond .ne 7, 3) := by decide +kernel
theorem dL_isTold_432 : decode cL_isTold 432 = .ok (.iconst 0, 1) := by decide +kernel
theorem dL_isTold_433 : decode cL_isTold 433 = .ok (.goto 4, 3) := by decide +kernel
theorem dL_isTold_436 : decode cL_isTold 436 = .ok (.iconst (-1), 1) := by decide +kernel
theorem dL_isTold_437 : decode cL_isTold 437 = .ok (.istore 12, 2) := by decide +kernel
theorem dL_isTold_439 : decode cL_isTold 439 = .ok (.iconst 0, 1) := by decide +kernel
theorem dL_isTold_440 : decode cL_isTold 440 = .ok (.istore 13, 2) := by decide +kernel
theorem dL_isTold_442 : decode cL_isTold 442 = .ok (.iload 13, 2) := by decide +kernel
theorem dL_isTold_444 : decode cL_isTold 444 = .ok (.bipush 60, 2) := by decide +kernel
theorem dL_isTold_446 : decode cL_isTold 446 = .ok (.if_icmp .ge 31, 3) := by decide +kernel
theorem dL_isTold_449 : decode cL_isTold 449 = .ok (.aload 11, 2) := by decide +kernel
theorem dL_isTold_451 : decode cL_isTold 451 = .ok (.iload 13, 2) := by decide +kernel
theorem dL_isTold_453 : decode cL_isTold 453 = .ok (.iload 12, 2) := by decide +kernel
theorem dL_isTold_455 : decode cL_isTold 455 = .ok (.ifCond .ne 11, 3) := by decide +kernel
theorem dL_isTold_458 : decode cL_isTold 458 = .ok (.aload 6, 2) := by decide +kernel
theorem dL_isTold_460 : decode cL_isTold 460 = .ok (.iload 13, 2) := by decide +kernel
theorem dL_isTold_462 : decode cL_isTold 462 = .ok (.iaload, 1) := by decide +kernel
theorem dL_isTold_463 : decode cL_isTold 463 = .ok (.goto 7, 3) := by decide +kernel
theorem dL_isTold_466 : decode cL_isTold 466 = .ok (.aload_n 2, 1) := by decide +kernel
theorem dL_isTold_467 : decode cL_isTold 467 = .ok (.iload 13, 2) := by decide +kernel
theorem dL_isTold_469 : decode cL_isTold 469 = .ok (.iaload, 1) := by decide +kernel
theorem dL_isTold_470 : decode cL_isTold 470 = .ok (.iastore, 1) := by decide +kernel
theorem dL_isTold_471 : decode cL_isTold 471 = .ok (.iinc 13 1, 3) := by decide +kernel
theorem dL_isTold_474 : decode cL_isTold 474 = .ok (.goto (-32), 3) := by decide +kernel
theorem dL_isTold_477 : decode cL_isTold 477 = .ok (.aload 5, 2) := by decide +kernel
theorem dL_isTold_479 : decode cL_isTold 479 = .ok (.bipush 7, 2) := by decide +kernel
theorem dL_isTold_481 : decode cL_isTold 481 = .ok (.dup2, 1) := by decide +kernel
theorem dL_isTold_482 : decode cL_isTold 482 = .ok (.iaload, 1) := by decide +kernel
theorem dL_isTold_483 : decode cL_isTold 483 = .ok (.iconst 1, 1) := by decide +kernel
theorem dL_isTold_484 : decode cL_isTold 484 = .ok (.iadd, 1) := by decide +kernel
theorem dL_isTold_485 : decode cL_isTold 485 = .ok (.iastore, 1) := by decide +kernel
theorem dL_isTold_486 : decode cL_isTold 486 = .ok (.aload_n 0, 1) := by decide +kernel
theorem dL_isTold_487 : decode cL_isTold 487 = .ok (.iload 12, 2) := by decide +kernel
theorem dL_isTold_489 : decode cL_isTold 489 = .ok (.invokevirtual 136, 3) := by decide +kernel
theorem dL_isTold_492 : decode cL_isTold 492 = .ok (.aload 5, 2) := by decide +kernel
theorem dL_isTold_494 : decode cL_isTold 494 = .ok (.bipush 7, 2) := by decide +kernel
theorem dL_isTold_496 : decode cL_isTold 496 = .ok (.iaload, 1) := by decide +kernel
theorem dL_isTold_497 : decode cL_isTold 497 = .ok (.iconst 1, 1) := by decide +kernel
theorem dL_isTold_498 : decode cL_isTold 498 = .ok (.isub, 1) := by decide +kernel
theorem dL_isTold_499 : decode cL_isTold 499 = .ok (.if_icmp .ne 7, 3) := by decide +kernel
theorem dL_isTold_502 : decode cL_isTold 502 = .ok (.iconst 1, 1) := by decide +kernel
theorem dL_isTold_503 : decode cL_isTold 503 = .ok (.goto 4, 3) := by decide +kernel
theorem dL_isTold_506 : decode cL_isTold 506 = .ok (.iconst 0, 1) := by decide +kernel
theorem dL_isTold_507 : decode cL_isTold 507 = .ok (.ireturn, 1) := by decide +kernel
theorem dL_isTold_508 : decode cL_isTold 508 = .ok (.iload 9, 2) := by decide +kernel
theorem dL_isTold_510 : decode cL_isTold 510 = .ok (.bipush 20, 2) := by decide +kernel
theorem dL_isTold_512 : decode cL_isTold 512 = .ok (.idiv, 1) := by decide +kernel
theorem dL_isTold_513 : decode cL_isTold 513 = .ok (.iconst 2, 1) := by decide +kernel
theorem dL_isTold_514 : decode cL_isTold 514 = .ok (.irem, 1) := by decide +kernel
theorem dL_isTold_515 : decode cL_isTold 515 = .ok (.ifCond .ne 8, 3) := by decide +kernel
theorem dL_isTold_518 : decode cL_isTold 518 = .ok (.aload 6, 2) := by decide +kernel
theorem dL_isTold_520 : decode cL_isTold 520 = .ok (.goto 5, 3) := by decide +kernel
theorem dL_isTold_523 : decode cL_isTold 523 = .ok (.aload 7, 2) := by decide +kernel
theorem dL_isTold_525 : decode cL_isTold 525 = .ok (.astore 11, 2) := by decide +kernel
theorem dL_isTold_527 : decode cL_isTold 527 = .ok (.iload 9, 2) := by decide +kernel
theorem dL_isTold_529 : decode cL_isTold 529 = .ok (.bipush 40, 2) := by decide +kernel
theorem dL_isTold_531 : decode cL_isTold 531 = .ok (.idiv, 1) := by decide +kernel
theorem dL_isTold_532 : decode cL_isTold 532 = .ok (.iconst 2, 1) := by decide +kernel
theorem dL_isTold_533 : decode cL_isTold 533 = .ok (.irem, 1) := by decide +kernel
theorem dL_isTold_534 : decode cL_isTold 534 = .ok (.istore 12, 2) := by decide +kernel
theorem dL_isTold_536 : decode cL_isTold 536 = .ok (.aload 5, 2) := by decide +kernel
theorem dL_isTold_538 : decode cL_isTold 538 = .ok (.bipush 7, 2) := by decide +kernel
theorem dL_isTold_540 : decode cL_isTold 540 = .ok (.iaload, 1) := by decide +kernel
theorem dL_isTold_541 : decode cL_isTold 541 = .ok (.iload 9, 2) := by decide +kernel
theorem dL_isTold_543 : decode cL_isTold 543 = .ok (.bipush 20, 2) := by decide +kernel
theorem dL_isTold_545 : decode cL_isTold 545 = .ok (.idiv, 1) := by decide +kernel
theorem dL_isTold_546 : decode cL_isTold 546 = .ok (.iconst 2, 1) := by decide +kernel
theorem dL_isTold_547 : decode cL_isTold 547 = .ok (.irem, 1) := by decide +kernel
theorem dL_isTold_548 : decode cL_isTold 548 = .ok (.if_icmp .le 17, 3) := by decide +kernel
theorem dL_isTold_551 : decode cL_isTold 551 = .ok (.aload 11, 2) := by decide +kernel
theorem dL_isTold_553 : decode cL_isTold 553 = .ok (.bipush 6, 2) := by decide +kernel
theorem dL_isTold_555 : decode cL_isTold 555 = .ok (.iload 10, 2) := by decide +kernel
theorem dL_isTold_557 : decode cL_isTold 557 = .ok (.imul, 1) := by decide +kernel
theorem dL_isTold_558 : decode cL_isTold 558 = .ok (.iload 12, 2) := by decide +kernel
theorem dL_isTold_560 : decode cL_isTold 560 = .ok (.iadd, 1) := by decide +kernel
theorem dL_isTold_561 : decode cL_isTold 561 = .ok (.iaload, 1) := by decide +kernel
theorem dL_isTold_562 : decode cL_isTold 562 = .ok (.ifCond .ne 5, 3) := by decide +kernel
theorem dL_isTold_565 : decode cL_isTold 565 = .ok (.iconst 1, 1) := by decide +kernel
theorem dL_isTold_566 : decode cL_isTold 566 = .ok (.ireturn, 1) := by decide +kernel
theorem dL_isTold_567 : decode cL_isTold 567 = .ok (.aload 11, 2) := by decide +kernel
theorem dL_isTold_569 : decode cL_isTold 569 = .ok (.bipush 6, 2) := by decide +kernel
theorem dL_isTold_571 : decode cL_isTold 571 = .ok (.iload 10, 2) := by decide +kernel
theorem dL_isTold_573 : decode cL_isTold 573 = .ok (.imul, 1) := by decide +kernel
theorem dL_isTold_574 : decode cL_isTold 574 = .ok (.iload 12, 2) := by decide +kernel
theorem dL_isTold_576 : decode cL_isTold 576 = .ok (.iadd, 1) := by decide +kernel
theorem dL_isTold_577 : decode cL_isTold 577 = .ok (.iaload, 1) := by decide +kernel
theorem dL_isTold_578 : decode cL_isTold 578 = .ok (.iconst 1, 1) := by decide +kernel
theorem dL_isTold_579 : decode cL_isTold 579 = .ok (.isub, 1) := by decide +kernel
theorem dL_isTold_580 : decode cL_isTold 580 = .ok (.istore 13, 2) := by decide +kernel
theorem dL_isTold_582 : decode cL_isTold 582 = .ok (.aload 11, 2) := by decide +kernel
theorem dL_isTold_584 : decode cL_isTold 584 = .ok (.bipush 6, 2) := by decide +kernel
theorem dL_isTold_586 : decode cL_isTold 586 = .ok (.iload 10, 2) := by decide +kernel
theorem dL_isTold_588 : decode cL_isTold 588 = .ok (.imul, 1) := by decide +kernel
theorem dL_isTold_589 : decode cL_isTold 589 = .ok (.iload 12, 2) := by decide +kernel
theorem dL_isTold_591 : decode cL_isTold 591 = .ok (.iadd, 1) := by decide +kernel
theorem dL_isTold_592 : decode cL_isTold 592 = .ok (.iconst 1, 1) := by decide +kernel
theorem dL_isTold_593 : decode cL_isTold 593 = .ok (.iload 9, 2) := by decide +kernel
theorem dL_isTold_595 : decode cL_isTold 595 = .ok (.bipush 80, 2) := by decide +kernel
theorem dL_isTold_597 : decode cL_isTold 597 = .ok (.idiv, 1) := by decide +kernel
theorem dL_isTold_598 : decode cL_isTold 598 = .ok (.bipush 16, 2) := by decide +kernel
theorem dL_isTold_600 : decode cL_isTold 600 = .ok (.irem, 1) := by decide +kernel
theorem dL_isTold_601 : decode cL_isTold 601 = .ok (.iadd, 1) := by decide +kernel
theorem dL_isTold_602 : decode cL_isTold 602 = .ok (.iastore, 1) := by decide +kernel
theorem dL_isTold_603 : decode cL_isTold 603 = .ok (.aload_n 0, 1) := by decide +kernel
theorem dL_isTold_604 : decode cL_isTold 604 = .ok (.iload 9, 2) := by decide +kernel
theorem dL_isTold_606 : decode cL_isTold 606 = .ok (.bipush 20, 2) := by decide +kernel
theorem dL_isTold_608 : decode cL_isTold 608 = .ok (.idiv, 1) := by decide +kernel
theorem dL_isTold_609 : decode cL_isTold 609 = .ok (.iconst 2, 1) := by decide +kernel
theorem dL_isTold_610 : decode cL_isTold 610 = .ok (.irem, 1) := by decide +kernel
theorem dL_isTold_611 : decode cL_isTold 611 = .ok (.iload 10, 2) := by decide +kernel
theorem dL_isTold_613 : decode cL_isTold 613 = .ok (.iload 12, 2) := by decide +kernel
theorem dL_isTold_615 : decode cL_isTold 615 = .ok (.iload 9, 2) := by decide +kernel
theorem dL_isTold_617 : decode cL_isTold 617 = .ok (.bipush 80, 2) := by decide +kernel
theorem dL_isTold_619 : decode cL_isTold 619 = .ok (.idiv, 1) := by decide +kernel
theorem dL_isTold_620 : decode cL_isTold 620 = .ok (.bipush 16, 2) := by decide +kernel
theorem dL_isTold_622 : decode cL_isTold 622 = .ok (.irem, 1) := by decide +kernel
theorem dL_isTold_623 : decode cL_isTold 623 = .ok (.invokevirtual 139, 3) := by decide +kernel
theorem dL_isTold_626 : decode cL_isTold 626 = .ok (.iload 13, 2) := by decide +kernel
theorem dL_isTold_628 : decode cL_isTold 628 = .ok (.if_icmp .ne 7, 3) := by decide +kernel
theorem dL_isTold_631 : decode cL_isTold 631 = .ok (.iconst 1, 1) := by decide +kernel
theorem dL_isTold_632 : decode cL_isTold 632 = .ok (.goto 4, 3) := by decide +kernel
theorem dL_isTold_635 : decode cL_isTold 635 = .ok (.iconst 0, 1) := by decide +kernel
theorem dL_isTold_636 : decode cL_isTold 636 = .ok (.ireturn, 1) := by decide +kernel
theorem dL_holds_0 : decode cL_holds 0 = .ok (.new 55, 3) := by decide +kernel
theorem dL_holds_3 : decode cL_holds 3 = .ok (.dup, 1) := by decide +kernel
theorem dL_holds_4 : decode cL_holds 4 = .ok (.invokespecial 143, 3) := by decide +kernel
theorem dL_holds_7 : decode cL_holds 7 = .ok (.astore_n 1, 1) := by decide +kernel
theorem dL_holds_8 : decode cL_holds 8 = .ok (.bipush 16, 2) := by decide +kernel
theorem dL_holds_10 : decode cL_holds 10 = .ok (.newarray .int, 2) := by decide +kernel
theorem dL_holds_12 : decode cL_holds 12 = .ok (.astore_n 2, 1) := by decide +kernel
theorem dL_holds_13 : decode cL_holds 13 = .ok (.bipush 16, 2) := by decide +kernel
theorem dL_holds_15 : decode cL_holds 15 = .ok (.newarray .int, 2) := by decide +kernel
theorem dL_holds_17 : decode cL_holds 17 = .ok (.astore_n 3, 1) := by decide +kernel
theorem dL_holds_18 : decode cL_holds 18 = .ok (.bipush 64, 2) := by decide +kernel
theorem dL_holds_20 : decode cL_holds 20 = .ok (.newarray .int, 2) := by decide +kernel
theorem dL_holds_22 : decode cL_holds 22 = .ok (.astore 4, 2) := by decide +kernel
theorem dL_holds_24 : decode cL_holds 24 = .ok (.bipush 44, 2) := by decide +kernel
theorem dL_holds_26 : decode cL_holds 26 = .ok (.newarray .int, 2) := by decide +kernel
theorem dL_holds_28 : decode cL_holds 28 = .ok (.astore 5, 2) := by decide +kernel
theorem dL_holds_30 : decode cL_holds 30 = .ok (.bipush 40, 2) := by decide +kernel
theorem dL_holds_32 : decode cL_holds 32 = .ok (.newarray .int, 2) := by decide +kernel
theorem dL_holds_34 : decode cL_holds 34 = .ok (.astore 6, 2) := by decide +kernel
theorem dL_holds_36 : decode cL_holds 36 = .ok (.bipush 9, 2) := by decide +kernel
theorem dL_holds_38 : decode cL_holds 38 = .ok (.newarray .int, 2) := by decide +kernel
theorem dL_holds_40 : decode cL_holds 40 = .ok (.astore 7, 2) := by decide +kernel
theorem dL_holds_42 : decode cL_holds 42 = .ok (.bipush 6, 2) := by decide +kernel
theorem dL_holds_44 : decode cL_holds 44 = .ok (.newarray .int, 2) := by decide +kernel
theorem dL_holds_46 : decode cL_holds 46 = .ok (.astore 8, 2) := by decide +kernel
theorem dL_holds_48 : decode cL_holds 48 = .ok (.bipush 28, 2) := by decide +kernel
theorem dL_holds_50 : decode cL_holds 50 = .ok (.newarray .int, 2) := by decide +kernel
theorem dL_holds_52 : decode cL_holds 52 = .ok (.astore 9, 2) := by decide +kernel
theorem dL_holds_54 : decode cL_holds 54 = .ok (.bipush 60, 2) := by decide +kernel
theorem dL_holds_56 : decode cL_holds 56 = .ok (.newarray .int, 2) := by decide +kernel
theorem dL_holds_58 : decode cL_holds 58 = .ok (.astore 10, 2) := by decide +kernel
theorem dL_holds_60 : decode cL_holds 60 = .ok (.bipush 60, 2) := by decide +kernel
theorem dL_holds_62 : decode cL_holds 62 = .ok (.newarray .int, 2) := by decide +kernel
theorem dL_holds_64 : decode cL_holds 64 = .ok (.astore 11, 2) := by decide +kernel
theorem dL_holds_66 : decode cL_holds 66 = .ok (.iconst 1, 1) := by decide +kernel
theorem dL_holds_67 : decode cL_holds 67 = .ok (.istore 12, 2) := by decide +kernel
theorem dL_holds_69 : decode cL_holds 69 = .ok (.aload 7, 2) := by decide +kernel
theorem dL_holds_71 : decode cL_holds 71 = .ok (.bipush 6, 2) := by decide +kernel
theorem dL_holds_73 : decode cL_holds 73 = .ok (.iconst (-1), 1) := by decide +kernel
theorem dL_holds_74 : decode cL_holds 74 = .ok (.iastore, 1) := by decide +kernel
theorem dL_holds_75 : decode cL_holds 75 = .ok (.iconst 0, 1) := by decide +kernel
theorem dL_holds_76 : decode cL_holds 76 = .ok (.istore 13, 2) := by decide +kernel
theorem dL_holds_78 : decode cL_holds 78 = .ok (.iload 13, 2) := by decide +kernel
theorem dL_holds_80 : decode cL_holds 80 = .ok (.bipush 16, 2) := by decide +kernel
theorem dL_holds_82 : decode cL_holds 82 = .ok (.if_icmp .ge 171, 3) := by decide +kernel
theorem dL_holds_85 : decode cL_holds 85 = .ok (.iload 12, 2) := by decide +kernel
theorem dL_holds_87 : decode cL_holds 87 = .ok (.ifCond .eq 166, 3) := by decide +kernel
theorem dL_holds_90 : decode cL_holds 90 = .ok (.aload_n 0, 1) := by decide +kernel
theorem dL_holds_91 : decode cL_holds 91 = .ok (.sipush 300, 3) := by decide +kernel
theorem dL_holds_94 : decode cL_holds 94 = .ok (.iload 13, 2) := by decide +kernel
theorem dL_holds_96 : decode cL_holds 96 = .ok (.iadd, 1) := by decide +kernel
theorem dL_holds_97 : decode cL_holds 97 = .ok (.ldc 144, 2) := by decide +kernel
theorem dL_holds_99 : decode cL_holds 99 = .ok (.invokestatic 145, 3) := by decide +kernel
theorem dL_holds_102 : decode cL_holds 102 = .ok (.istore 14, 2) := by decide +kernel
theorem dL_holds_104 : decode cL_holds 104 = .ok (.iload 14, 2) := by decide +kernel
theorem dL_holds_106 : decode cL_holds 106 = .ok (.bipush 7, 2) := by decide +kernel
theorem dL_holds_108 : decode cL_holds 108 = .ok (.irem, 1) := by decide +kernel
theorem dL_holds_109 : decode cL_holds 109 = .ok (.iconst 4, 1) := by decide +kernel
theorem dL_holds_110 : decode cL_holds 110 = .ok (.if_icmp .ge 11, 3) := by decide +kernel
theorem dL_holds_113 : decode cL_holds 113 = .ok (.iload 14, 2) := by decide +kernel
theorem dL_holds_115 : decode cL_holds 115 = .ok (.bipush 7, 2) := by decide +kernel
theorem dL_holds_117 : decode cL_holds 117 = .ok (.irem, 1) := by decide +kernel
theorem dL_holds_118 : decode cL_holds 118 = .ok (.goto 17, 3) := by decide +kernel
theorem dL_holds_121 : decode cL_holds 121 = .ok (.iload 14, 2) := by decide +kernel
theorem dL_holds_123 : decode cL_holds 123 = .ok (.bipush 7, 2) := by decide +kernel
theorem dL_holds_125 : decode cL_holds 125 = .ok (.irem, 1) := by decide +kernel
theorem dL_holds_126 : decode cL_holds 126 = .ok (.iconst 4, 1) := by decide +kernel
theorem dL_holds_127 : decode cL_holds 127 = .ok (.if_icmp .ne 7, 3) := by decide +kernel
theorem dL_holds_130 : decode cL_holds 130 = .ok (.iconst 0, 1) := by decide +kernel
theorem dL_holds_131 : decode cL_holds 131 = .ok (.goto 4, 3) := by decide +kernel
theorem dL_holds_134 : decode cL_holds 134 = .ok (.iconst (-1), 1) := by decide +kernel
theorem dL_holds_135 : decode cL_holds 135 = .ok (.istore 15, 2) := by decide +kernel
theorem dL_holds_137 : decode cL_holds 137 = .ok (.iconst 1, 1) := by decide +kernel
theorem dL_holds_138 : decode cL_holds 138 = .ok (.iload 14, 2) := by decide +kernel
theorem dL_holds_140 : decode cL_holds 140 = .ok (.bipush 7, 2) := by decide +kernel
theorem dL_holds_142 : decode cL_holds 142 = .ok (.idiv, 1) := by decide +kernel
theorem dL_holds_143 : decode cL_holds 143 = .ok (.bipush 8, 2) := by decide +kernel
theorem dL_holds_145 : decode cL_holds 145 = .ok (.irem, 1) := by decide +kernel
theorem dL_holds_146 : decode cL_holds 146 = .ok (.ishl, 1) := by decide +kernel
theorem dL_holds_147 : decode cL_holds 147 = .ok (.iload 14, 2) := by decide +kernel
theorem dL_holds_149 : decode cL_holds 149 = .ok (.bipush 56, 2) := by decide +kernel
theorem dL_holds_151 : decode cL_holds 151 = .ok (.idiv, 1) := by decide +kernel
theorem dL_holds_152 : decode cL_holds 152 = .ok (.iconst 3, 1) := by decide +kernel
theorem dL_holds_153 : decode cL_holds 153 = .ok (.irem, 1) := by decide +kernel
theorem dL_holds_154 : decode cL_holds 154 = .ok (.ifCond .ne 17, 3) := by decide +kernel
theorem dL_holds_157 : decode cL_holds 157 = .ok (.iconst 1, 1) := by decide +kernel
theorem dL_holds_158 : decode cL_holds 158 = .ok (.iload 14, 2) := by decide +kernel
theorem dL_holds_160 : decode cL_holds 160 = .ok (.sipush 168, 3) := by decide +kernel
theorem dL_holds_163 : decode cL_holds 163 = .ok (.idiv, 1) := by decide +kernel
theorem dL_holds_164 : decode cL_holds 164 = .ok (.bipush 10, 2) := by decide +kernel
theorem dL_holds_166 : decode cL_holds 166 = .ok (.irem, 1) := by decide +kernel
theorem dL_holds_167 : decode cL_holds 167 = .ok (.ishl, 1) := by decide +kernel
theorem dL_holds_168 : decode cL_holds 168 = .ok (.goto 4, 3) := by decide +kernel
theorem dL_holds_171 : decode cL_holds 171 = .ok (.iconst 0, 1) := by decide +kernel
theorem dL_holds_172 : decode cL_holds 172 = .ok (.ior, 1) := by decide +kernel
theorem dL_holds_173 : decode cL_holds 173 = .ok (.istore 16, 2) := by decide +kernel
theorem dL_holds_175 : decode cL_holds 175 = .ok (.aload_n 2, 1) := by decide +kernel
theorem dL_holds_176 : decode cL_holds 176 = .ok (.iload 13, 2) := by decide +kernel
theorem dL_holds_178 : decode cL_holds 178 = .ok (.iconst 1, 1) := by decide +kernel
theorem dL_holds_179 : decode cL_holds 179 = .ok (.iload 14, 2) := by decide +kernel
theorem dL_holds_181 : decode cL_holds 181 = .ok (.sipush 1680, 3) := by decide +kernel
theorem dL_holds_184 : decode cL_holds 184 = .ok (.idiv, 1) := by decide +kernel
theorem dL_holds_185 : decode cL_holds 185 = .ok (.iconst 5, 1) := by decide +kernel
theorem dL_holds_186 : decode cL_holds 186 = .ok (.irem, 1) := by decide +kernel
theorem dL_holds_187 : decode cL_holds 187 = .ok (.iadd, 1) := by decide +kernel
theorem dL_holds_188 : decode cL_holds 188 = .ok (.iload 15, 2) := by decide +kernel
theorem dL_holds_190 : decode cL_holds 190 = .ok (.iconst 1, 1) := by decide +kernel
theorem dL_holds_191 : decode cL_holds 191 = .ok (.iadd, 1) := by decide +kernel
theorem dL_holds_192 : decode cL_holds 192 = .ok (.iconst 4, 1) := by decide +kernel
theorem dL_holds_193 : decode cL_holds 193 = .ok (.ishl, 1) := by decide +kernel
theorem dL_holds_194 : decode cL_holds 194 = .ok (.ior, 1) := by decide +kernel
theorem dL_holds_195 : decode cL_holds 195 = .ok (.iload 16, 2) := by decide +kernel
theorem dL_holds_197 : decode cL_holds 197 = .ok (.bipush 8, 2) := by decide +kernel
theorem dL_holds_199 : decode cL_holds 199 = .ok (.ishl, 1) := by decide +kernel
theorem dL_holds_200 : decode cL_holds 200 = .ok (.ior, 1) := by decide +kernel
theorem dL_holds_201 : decode cL_holds 201 = .ok (.iastore, 1) := by decide +kernel
theorem dL_holds_202 : decode cL_holds 202 = .ok (.aload_n 1, 1) := by decide +kernel
theorem dL_holds_203 : decode cL_holds 203 = .ok (.iconst 1, 1) := by decide +kernel
theorem dL_holds_204 : decode cL_holds 204 = .ok (.iload 14, 2) := by decide +kernel
theorem dL_holds_206 : decode cL_holds 206 = .ok (.sipush 1680, 3) := by decide +kernel
theorem dL_holds_209 : decode cL_holds 209 = .ok (.idiv, 1) := by decide +kernel
theorem dL_holds_210 : decode cL_holds 210 = .ok (.iconst 5, 1) := by decide +kernel
theorem dL_holds_211 : decode cL_holds 211 = .ok (.irem, 1) := by decide +kernel
theorem dL_holds_212 : decode cL_holds 212 = .ok (.iadd, 1) := by decide +kernel
theorem dL_holds_213 : decode cL_holds 213 = .ok (.iload 15, 2) := by decide +kernel
theorem dL_holds_215 : decode cL_holds 215 = .ok (.iload 16, 2) := by decide +kernel
theorem dL_holds_217 : decode cL_holds 217 = .ok (.invokevirtual 149, 3) := by decide +kernel
theorem dL_holds_220 : decode cL_holds 220 = .ok (.iload 13, 2) := by decide +kernel
theorem dL_holds_222 : decode cL_holds 222 = .ok (.if_icmp .ne 22, 3) := by decide +kernel
theorem dL_holds_225 : decode cL_holds 225 = .ok (.iload 13, 2) := by decide +kernel
theorem dL_holds_227 : decode cL_holds 227 = .ok (.iconst 2, 1) := by decide +kernel
theorem dL_holds_228 : decode cL_holds 228 = .ok (.if_icmp .gt 12, 3) := by decide +kernel
theorem dL_holds_231 : decode cL_holds 231 = .ok (.aload_n 1, 1) := by decide +kernel
theorem dL_holds_232 : decode cL_holds 232 = .ok (.invokevirtual 152, 3) := by decide +kernel
theorem dL_holds_235 : decode cL_holds 235 = .ok (.iload 13, 2) := by decide +kernel
theorem dL_holds_237 : decode cL_holds 237 = .ok (.if_icmp .ne 7, 3) := by decide +kernel
theorem dL_holds_240 : decode cL_holds 240 = .ok (.iconst 1, 1) := by decide +kernel
theorem dL_holds_241 : decode cL_holds 241 = .ok (.goto 4, 3) := by decide +kernel
theorem dL_holds_244 : decode cL_holds 244 = .ok (.iconst 0, 1) := by decide +kernel
theorem dL_holds_245 : decode cL_holds 245 = .ok (.istore 12, 2) := by decide +kernel
theorem dL_holds_247 : decode cL_holds 247 = .ok (.iinc 13 1, 3) := by decide +kernel
theorem dL_holds_250 : decode cL_holds 250 = .ok (.goto (-172), 3) := by decide +kernel
theorem dL_holds_253 : decode cL_holds 253 = .ok (.iconst 0, 1) := by decide +kernel
theorem dL_holds_254 : decode cL_holds 254 = .ok (.istore 13, 2) := by decide +kernel
theorem dL_holds_256 : decode cL_holds 256 = .ok (.iload 13, 2) := by decide +kernel
theorem dL_holds_258 : decode cL_holds 258 = .ok (.bipush 60, 2) := by decide +kernel
theorem dL_holds_260 : decode cL_holds 260 = .ok (.if_icmp .ge 343, 3) := by decide +kernel
theorem dL_holds_263 : decode cL_holds 263 = .ok (.iload 12, 2) := by decide +kernel
theorem dL_holds_265 : decode cL_holds 265 = .ok (.ifCond .eq 338, 3) := by decide +kernel
theorem dL_holds_268 : decode cL_holds 268 = .ok (.aload_n 0, 1) := by decide +kernel
theorem dL_holds_269 : decode cL_holds 269 = .ok (.iconst 2, 1) := by decide +kernel
theorem dL_holds_270 : decode cL_holds 270 = .ok (.iload 13, 2) := by decide +kernel
theorem dL_holds_272 : decode cL_holds 272 = .ok (.imul, 1) := by decide +kernel
theorem dL_holds_273 : decode cL_holds 273 = .ok (.bipush 32, 2) := by decide +kernel
theorem dL_holds_275 : decode cL_holds 275 = .ok (.invokestatic 145, 3) := by decide +kernel
theorem dL_holds_278 : decode cL_holds 278 = .ok (.istore 14, 2) := by decide +kernel
theorem dL_holds_280 : decode cL_holds 280 = .ok (.aload_n 0, 1) := by decide +kernel
theorem dL_holds_281 : decode cL_holds 281 = .ok (.iconst 2, 1) := by decide +kernel
theorem dL_holds_282 : decode cL_holds 282 = .ok (.iload 13, 2) := by decide +kernel
theorem dL_holds_284 : decode cL_holds 284 = .ok (.imul, 1) := by decide +kernel
theorem dL_holds_285 : decode cL_holds 285 = .ok (.iconst 1, 1) := by decide +kernel
theorem dL_holds_286 : decode cL_holds 286 = .ok (.iadd, 1) := by decide +kernel
theorem dL_holds_287 : decode cL_holds 287 = .ok (.ldc 144, 2) := by decide +kernel
theorem dL_holds_289 : decode cL_holds 289 = .ok (.invokestatic 145, 3) := by decide +kernel
theorem dL_holds_292 : decode cL_holds 292 = .ok (.istore 15, 2) := by decide +kernel
theorem dL_holds_294 : decode cL_holds 294 = .ok (.iload 13, 2) := by decide +kernel
theorem dL_holds_296 : decode cL_holds 296 = .ok (.ifCond .eq 8, 3) := by decide +kernel
theorem dL_holds_299 : decode cL_holds 299 = .ok (.iload 14, 2) := by decide +kernel
theorem dL_holds_301 : decode cL_holds 301 = .ok (.ifCond .ne 22, 3) := by decide +kernel
theorem dL_holds_304 : decode cL_holds 304 = .ok (.aload_n 1, 1) := by decide +kernel
theorem dL_holds_305 : decode cL_holds 305 = .ok (.aload 4, 2) := by decide +kernel
theorem dL_holds_307 : decode cL_holds 307 = .ok (.aload 5, 2) := by decide +kernel
theorem dL_holds_309 : decode cL_holds 309 = .ok (.aload 6, 2) := by decide +kernel
theorem dL_holds_311 : decode cL_holds 311 = .ok (.aload 7, 2) := by decide +kernel
theorem dL_holds_313 : decode cL_holds 313 = .ok (.iload 15, 2) := by decide +kernel
theorem dL_holds_315 : decode cL_holds 315 = .ok (.invokestatic 155, 3) := by decide +kernel
theorem dL_holds_318 : decode cL_holds 318 = .ok (.istore 12, 2) := by decide +kernel
theorem dL_holds_320 : decode cL_holds 320 = .ok (.goto 240, 3) := by decide +kernel
theorem dL_holds_323 : decode cL_holds 323 = .ok (.iload 14, 2) := by decide +kernel
theorem dL_holds_325 : decode cL_holds 325 = .ok (.bipush 10, 2) := by decide +kernel
theorem dL_holds_327 : decode cL_holds 327 = .ok (.if_icmp .ge 26, 3) := by decide +kernel
theorem dL_holds_330 : decode cL_holds 330 = .ok (.aload_n 1, 1) := by decide +kernel
theorem dL_holds_331 : decode cL_holds 331 = .ok (.aload_n 2, 1) := by decide +kernel
theorem dL_holds_332 : decode cL_holds 332 = .ok (.aload_n 3, 1) := by decide +kernel
theorem dL_holds_333 : decode cL_holds 333 = .ok (.aload 4, 2) := by decide +kernel
theorem dL_holds_335 : decode cL_holds 335 = .ok (.aload 5, 2) := by decide +kernel
theorem dL_holds_337 : decode cL_holds 337 = .ok (.aload 7, 2) := by decide +kernel
theorem dL_holds_339 : decode cL_holds 339 = .ok (.aload 8, 2) := by decide +kernel
theorem dL_holds_341 : decode cL_holds 341 = .ok (.aload 9, 2) := by decide +kernel
theorem dL_holds_343 : decode cL_holds 343 = .ok (.iload 15, 2) := by decide +kernel
theorem dL_holds_345 : decode cL_holds 345 = .ok (.invokestatic 159, 3) := by decide +kernel
theorem dL_holds_348 : decode cL_holds 348 = .ok (.istore 12, 2) := by decide +kernel
theorem dL_holds_350 : decode cL_holds 350 = .ok (.goto 210, 3) := by decide +kernel
theorem dL_holds_353 : decode cL_holds 353 = .ok (.iload 14, 2) := by decide +kernel
theorem dL_holds_355 : decode cL_holds 355 = .ok (.bipush 15, 2) := by decide +kernel
theorem dL_holds_357 : decode cL_holds 357 = .ok (.if_icmp .ge 22, 3) := by decide +kernel
theorem dL_holds_360 : decode cL_holds 360 = .ok (.aload_n 1, 1) := by decide +kernel
theorem dL_holds_361 : decode cL_holds 361 = .ok (.aload 4, 2) := by decide +kernel
theorem dL_holds_363 : decode cL_holds 363 = .ok (.aload 5, 2) := by decide +kernel
theorem dL_holds_365 : decode cL_holds 365 = .ok (.aload 7, 2) := by decide +kernel
theorem dL_holds_367 : decode cL_holds 367 = .ok (.aload 9, 2) := by decide +kernel
theorem dL_holds_369 : decode cL_holds 369 = .ok (.iload 15, 2) := by decide +kernel
theorem dL_holds_371 : decode cL_holds 371 = .ok (.invokestatic 163, 3) := by decide +kernel
theorem dL_holds_374 : decode cL_holds 374 = .ok (.istore 12, 2) := by decide +kernel
theorem dL_holds_376 : decode cL_holds 376 = .ok (.goto 184, 3) := by decide +kernel
theorem dL_holds_379 : decode cL_holds 379 = .ok (.iload 14, 2) := by decide +kernel
theorem dL_holds_381 : decode cL_holds 381 = .ok (.bipush 18, 2) := by decide +kernel
theorem dL_holds_383 : decode cL_holds 383 = .ok (.if_icmp .ge 22, 3) := by decide +kernel
theorem dL_holds_386 : decode cL_holds 386 = .ok (.aload_n 1, 1) := by decide +kernel
theorem dL_holds_387 : decode cL_holds 387 = .ok (.aload_n 2, 1) := by decide +kernel
theorem dL_holds_388 : decode cL_holds 388 = .ok (.aload_n 3, 1) := by decide +kernel
theorem dL_holds_389 : decode cL_holds 389 = .ok (.aload 4, 2) := by decide +kernel
theorem dL_holds_391 : decode cL_holds 391 = .ok (.aload 5, 2) := by decide +kernel
theorem dL_holds_393 : decode cL_holds 393 = .ok (.aload 7, 2) := by decide +kernel
theorem dL_holds_395 : decode cL_holds 395 = .ok (.iload 15, 2) := by decide +kernel
theorem dL_holds_397 : decode cL_holds 397 = .ok (.invokestatic 166, 3) := by decide +kernel
theorem dL_holds_400 : decode cL_holds 400 = .ok (.istore 12, 2) := by decide +kernel
theorem dL_holds_402 : decode cL_holds 402 = .ok (.goto 158, 3) := by decide +kernel
theorem dL_holds_405 : decode cL_holds 405 = .ok (.iload 14, 2) := by decide +kernel
theorem dL_holds_407 : decode cL_holds 407 = .ok (.bipush 18, 2) := by decide +kernel
theorem dL_holds_409 : decode cL_holds 409 = .ok (.if_icmp .ne 85, 3) := by decide +kernel
theorem dL_holds_412 : decode cL_holds 412 = .ok (.iconst 0, 1) := by decide +kernel
theorem dL_holds_413 : decode cL_holds 413 = .ok (.istore 16, 2) := by decide +kernel
theorem dL_holds_415 : decode cL_holds 415 = .ok (.iconst 0, 1) := by decide +kernel
theorem dL_holds_416 : decode cL_holds 416 = .ok (.istore 17, 2) := by decide +kernel
theorem dL_holds_418 : decode cL_holds 418 = .ok (.iload 17, 2) := by decide +kernel
theorem dL_holds_420 : decode cL_holds 420 = .ok (.bipush 6, 2) := by decide +kernel
theorem dL_holds_422 : decode cL_holds 422 = .ok (.if_icmp .ge 27, 3) := by decide +kernel
theorem dL_holds_425 : decode cL_holds 425 = .ok (.iload 16, 2) := by decide +kernel
theorem dL_holds_427 : decode cL_holds 427 = .ok (.aload 8, 2) := by decide +kernel
theorem dL_holds_429 : decode cL_holds 429 = .ok (.iload 17, 2) := by decide +kernel
theorem dL_holds_431 : decode cL_holds 431 = .ok (.iaload, 1) := by decide +kernel
theorem dL_holds_432 : decode cL_holds 432 = .ok (.ifCond .le 7, 3) := by decide +kernel
theorem dL_holds_435 : decode cL_holds 435 = .ok (.iconst 1, 1) := by decide +kernel
theorem dL_holds_436 : decode cL_holds 436 = .ok (.goto 4, 3) := by decide +kernel
theorem dL_holds_439 : decode cL_holds 439 = .ok (.iconst 0, 1) := by decide +kernel
theorem dL_holds_440 : decode cL_holds 440 = .ok (.iadd, 1) := by decide +kernel
theorem dL_holds_441 : decode cL_holds 441 = .ok (.istore 16, 2) := by decide +kernel
theorem dL_holds_443 : decode cL_holds 443 = .ok (.iinc 17 1, 3) := by decide +kernel
theorem dL_holds_446 : decode cL_holds 446 = .ok (.goto (-28), 3) := by decide +kernel
theorem dL_holds_449 : decode cL_holds 449 = .ok (.iload 16, 2) := by decide +kernel
theorem dL_holds_451 : decode cL_holds 451 = .ok (.bipush 6, 2) := by decide +kernel
theorem dL_holds_453 : decode cL_holds 453 = .ok (.if_icmp .ge 38, 3) := by decide +kernel
theorem dL_holds_456 : decode cL_holds 456 = .ok (.aload 8, 2) := by decide +kernel
theorem dL_holds_458 : decode cL_holds 458 = .ok (.iload 16, 2) := by decide +kernel
theorem dL_holds_460 : decode cL_holds 460 = .ok (.iconst 1, 1) := by decide +kernel
theorem dL_holds_461 : decode cL_holds 461 = .ok (.iload 15, 2) := by decide +kernel
theorem dL_holds_463 : decode cL_holds 463 = .ok (.bipush 16, 2) := by decide +kernel
theorem dL_holds_465 : decode cL_holds 465 = .ok (.irem, 1) := by decide +kernel
theorem dL_holds_466 : decode cL_holds 466 = .ok (.iadd, 1) := by decide +kernel
theorem dL_holds_467 : decode cL_holds 467 = .ok (.iastore, 1) := by decide +kernel
theorem dL_holds_468 : decode cL_holds 468 = .ok (.aload_n 1, 1) := by decide +kernel
theorem dL_holds_469 : decode cL_holds 469 = .ok (.iload 15, 2) := by decide +kernel
theorem dL_holds_471 : decode cL_holds 471 = .ok (.bipush 16, 2) := by decide +kernel
theorem dL_holds_473 : decode cL_holds 473 = .ok (.irem, 1) := by decide +kernel
theorem dL_holds_474 : decode cL_holds 474 = .ok (.invokevirtual 106, 3) := by decide +kernel
theorem dL_holds_477 : decode cL_holds 477 = .ok (.iload 16, 2) := by decide +kernel
theorem dL_holds_479 : decode cL_holds 479 = .ok (.iconst 1, 1) := by decide +kernel
theorem dL_holds_480 : decode cL_holds 480 = .ok (.iadd, 1) := by decide +kernel
theorem dL_holds_481 : decode cL_holds 481 = .ok (.if_icmp .ne 7, 3) := by decide +kernel
theorem dL_holds_484 : decode cL_holds 484 = .ok (.iconst 1, 1) := by decide +kernel
theorem dL_holds_485 : decode cL_holds 485 = .ok (.goto 4, 3) := by decide +kernel
theorem dL_holds_488 : decode cL_holds 488 = .ok (.iconst 0, 1) := by decide +kernel
theorem dL_holds_489 : decode cL_holds 489 = .ok (.istore 12, 2) := by decide +kernel
theorem dL_holds_491 : decode cL_holds 491 = .ok (.goto 69, 3) := by decide +kernel
theorem dL_holds_494 : decode cL_holds 494 = .ok (.aload_n 1, 1) := by decide +kernel
theorem dL_holds_495 : decode cL_holds 495 = .ok (.aload_n 3, 1) := by decide +kernel
theorem dL_holds_496 : decode cL_holds 496 = .ok (.aload 4, 2) := by decide +kernel
theorem dL_holds_498 : decode cL_holds 498 = .ok (.aload 5, 2) := by decide +kernel
theorem dL_holds_500 : decode cL_holds 500 = .ok (.aload 6, 2) := by decide +kernel
theorem dL_holds_502 : decode cL_holds 502 = .ok (.aload 7, 2) := by decide +kernel
theorem dL_holds_504 : decode cL_holds 504 = .ok (.aload 10, 2) := by decide +kernel
theorem dL_holds_506 : decode cL_holds 506 = .ok (.aload 11, 2) := by decide +kernel
theorem dL_holds_508 : decode cL_holds 508 = .ok (.iload 14, 2) := by decide +kernel
theorem dL_holds_510 : decode cL_holds 510 = .ok (.bipush 23, 2) := by decide +kernel
theorem dL_holds_512 : decode cL_holds 512 = .ok (.if_icmp .ge 7, 3) := by decide +kernel
theorem dL_holds_515 : decode cL_holds 515 = .ok (.iconst 0, 1) := by decide +kernel
theorem dL_holds_516 : decode cL_holds 516 = .ok (.goto 37, 3) := by decide +kernel
theorem dL_holds_519 : decode cL_holds 519 = .ok (.iload 14, 2) := by decide +kernel
theorem dL_holds_521 : decode cL_holds 521 = .ok (.bipush 25, 2) := by decide +kernel
theorem dL_holds_523 : decode cL_holds 523 = .ok (.if_icmp .ge 7, 3) := by decide +kernel
theorem dL_holds_526 : decode cL_holds 526 = .ok (.iconst 1, 1) := by decide +kernel
theorem dL_holds_527 : decode cL_holds 527 = .ok (.goto 26, 3) := by decide +kernel
theorem dL_holds_530 : decode cL_holds 530 = .ok (.iload 14, 2) := by decide +kernel
theorem dL_holds_532 : decode cL_holds 532 = .ok (.bipush 27, 2) := by decide +kernel
theorem dL_holds_534 : decode cL_holds 534 = .ok (.if_icmp .ge 7, 3) := by decide +kernel
theorem dL_holds_537 : decode cL_holds 537 = .ok (.iconst 2, 1) := by decide +kernel
theorem dL_holds_538 : decode cL_holds 538 = .ok (.goto 15, 3) := by decide +kernel
theorem dL_holds_541 : decode cL_holds 541 = .ok (.iload 14, 2) := by decide +kernel
theorem dL_holds_543 : decode cL_holds 543 = .ok (.bipush 27, 2) := by decide +kernel
theorem dL_holds_545 : decode cL_holds 545 = .ok (.if_icmp .ne 7, 3) := by decide +kernel
theorem dL_holds_548 : decode cL_holds 548 = .ok (.iconst 3, 1) := by decide +kernel
theorem dL_holds_549 : decode cL_holds 549 = .ok (.goto 4, 3) := by decide +kernel
theorem dL_holds_552 : decode cL_holds 552 = .ok (.iconst 4, 1) := by decide +kernel
theorem dL_holds_553 : decode cL_holds 553 = .ok (.iload 15, 2) := by decide +kernel
theorem dL_holds_555 : decode cL_holds 555 = .ok (.invokestatic 170, 3) := by decide +kernel
theorem dL_holds_558 : decode cL_holds 558 = .ok (.istore 12, 2) := by decide +kernel
theorem dL_holds_560 : decode cL_holds 560 = .ok (.iload 12, 2) := by decide +kernel
theorem dL_holds_562 : decode cL_holds 562 = .ok (.ifCond .eq 32, 3) := by decide +kernel
theorem dL_holds_565 : decode cL_holds 565 = .ok (.aload_n 1, 1) := by decide +kernel
theorem dL_holds_566 : decode cL_holds 566 = .ok (.aload_n 2, 1) := by decide +kernel
theorem dL_holds_567 : decode cL_holds 567 = .ok (.aload_n 3, 1) := by decide +kernel
theorem dL_holds_568 : decode cL_holds 568 = .ok (.aload 4, 2) := by decide +kernel
theorem dL_holds_570 : decode cL_holds 570 = .ok (.aload 5, 2) := by decide +kernel
theorem dL_holds_572 : decode cL_holds 572 = .ok (.aload 6, 2) := by decide +kernel
theorem dL_holds_574 : decode cL_holds 574 = .ok (.aload 7, 2) := by decide +kernel
theorem dL_holds_576 : decode cL_holds 576 = .ok (.aload 10, 2) := by decide +kernel
theorem dL_holds_578 : decode cL_holds 578 = .ok (.aload 11, 2) := by decide +kernel
theorem dL_holds_580 : decode cL_holds 580 = .ok (.iload 15, 2) := by decide +kernel
theorem dL_holds_582 : decode cL_holds 582 = .ok (.iconst 3, 1) := by decide +kernel
theorem dL_holds_583 : decode cL_holds 583 = .ok (.idiv, 1) := by decide +kernel
theorem dL_holds_584 : decode cL_holds 584 = .ok (.invokestatic 174, 3) := by decide +kernel
theorem dL_holds_587 : decode cL_holds 587 = .ok (.ifCond .eq 7, 3) := by decide +kernel
theorem dL_holds_590 : decode cL_holds 590 = .ok (.iconst 1, 1) := by decide +kernel
theorem dL_holds_591 : decode cL_holds 591 = .ok (.goto 4, 3) := by decide +kernel
theorem dL_holds_594 : decode cL_holds 594 = .ok (.iconst 0, 1) := by decide +kernel
theorem dL_holds_595 : decode cL_holds 595 = .ok (.istore 12, 2) := by decide +kernel
theorem dL_holds_597 : decode cL_holds 597 = .ok (.iinc 13 1, 3) := by decide +kernel
theorem dL_holds_600 : decode cL_holds 600 = .ok (.goto (-344), 3) := by decide +kernel
theorem dL_holds_603 : decode cL_holds 603 = .ok (.iload 12, 2) := by decide +kernel
theorem dL_holds_605 : decode cL_holds 605 = .ok (.ireturn, 1) := by decide +kernel
theorem dL_isHeld_0 : decode cL_isHeld 0 = .ok (.aload_n 0, 1) := by decide +kernel
theorem dL_isHeld_1 : decode cL_isHeld 1 = .ok (.invokestatic 178, 3) := by decide +kernel
theorem dL_isHeld_4 : decode cL_isHeld 4 = .ok (.ireturn, 1) := by decide +kernel
theorem dL_isHeld_5 : decode cL_isHeld 5 = .ok (.astore_n 1, 1) := by decide +kernel
theorem dL_isHeld_6 : decode cL_isHeld 6 = .ok (.iconst 0, 1) := by decide +kernel
theorem dL_isHeld_7 : decode cL_isHeld 7 = .ok (.ireturn, 1) := by decide +kernel
theorem dL_isHeld_8 : decode cL_isHeld 8 = .ok (.astore_n 1, 1) := by decide +kernel
theorem dL_isHeld_9 : decode cL_isHeld 9 = .ok (.iconst 0, 1) := by decide +kernel
theorem dL_isHeld_10 : decode cL_isHeld 10 = .ok (.ireturn, 1) := by decide +kernel
theorem dL_isHeld_11 : decode cL_isHeld 11 = .ok (.astore_n 1, 1) := by decide +kernel
theorem dL_isHeld_12 : decode cL_isHeld 12 = .ok (.iconst 0, 1) := by decide +kernel
theorem dL_isHeld_13 : decode cL_isHeld 13 = .ok (.ireturn, 1) := by decide +kernel
theorem dL_law_0 : decode cL_law 0 = .ok (.aload_n 0, 1) := by decide +kernel
theorem dL_law_1 : decode cL_law 1 = .ok (.invokestatic 188, 3) := by decide +kernel
theorem dL_law_4 : decode cL_law 4 = .ok (.ireturn, 1) := by decide +kernel
