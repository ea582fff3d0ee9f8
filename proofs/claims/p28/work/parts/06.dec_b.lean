theorem dJ6_bitCount_0f7a4_0 : decode cJ6_bitCount_0f7a4 0 = .ok (.iload_n 0, 1) := by decide +kernel
theorem dJ6_bitCount_0f7a4_1 : decode cJ6_bitCount_0f7a4 1 = .ok (.iload_n 0, 1) := by decide +kernel
theorem dJ6_bitCount_0f7a4_2 : decode cJ6_bitCount_0f7a4 2 = .ok (.iconst 1, 1) := by decide +kernel
theorem dJ6_bitCount_0f7a4_3 : decode cJ6_bitCount_0f7a4 3 = .ok (.iushr, 1) := by decide +kernel
theorem dJ6_bitCount_0f7a4_4 : decode cJ6_bitCount_0f7a4 4 = .ok (.ldc_w 265, 3) := by decide +kernel
theorem dJ6_bitCount_0f7a4_7 : decode cJ6_bitCount_0f7a4 7 = .ok (.iand, 1) := by decide +kernel
theorem dJ6_bitCount_0f7a4_8 : decode cJ6_bitCount_0f7a4 8 = .ok (.isub, 1) := by decide +kernel
theorem dJ6_bitCount_0f7a4_9 : decode cJ6_bitCount_0f7a4 9 = .ok (.istore_n 0, 1) := by decide +kernel
theorem dJ6_bitCount_0f7a4_10 : decode cJ6_bitCount_0f7a4 10 = .ok (.iload_n 0, 1) := by decide +kernel
theorem dJ6_bitCount_0f7a4_11 : decode cJ6_bitCount_0f7a4 11 = .ok (.ldc_w 266, 3) := by decide +kernel
theorem dJ6_bitCount_0f7a4_14 : decode cJ6_bitCount_0f7a4 14 = .ok (.iand, 1) := by decide +kernel
theorem dJ6_bitCount_0f7a4_15 : decode cJ6_bitCount_0f7a4 15 = .ok (.iload_n 0, 1) := by decide +kernel
theorem dJ6_bitCount_0f7a4_16 : decode cJ6_bitCount_0f7a4 16 = .ok (.iconst 2, 1) := by decide +kernel
theorem dJ6_bitCount_0f7a4_17 : decode cJ6_bitCount_0f7a4 17 = .ok (.iushr, 1) := by decide +kernel
theorem dJ6_bitCount_0f7a4_18 : decode cJ6_bitCount_0f7a4 18 = .ok (.ldc_w 266, 3) := by decide +kernel
theorem dJ6_bitCount_0f7a4_21 : decode cJ6_bitCount_0f7a4 21 = .ok (.iand, 1) := by decide +kernel
theorem dJ6_bitCount_0f7a4_22 : decode cJ6_bitCount_0f7a4 22 = .ok (.iadd, 1) := by decide +kernel
theorem dJ6_bitCount_0f7a4_23 : decode cJ6_bitCount_0f7a4 23 = .ok (.istore_n 0, 1) := by decide +kernel
theorem dJ6_bitCount_0f7a4_24 : decode cJ6_bitCount_0f7a4 24 = .ok (.iload_n 0, 1) := by decide +kernel
theorem dJ6_bitCount_0f7a4_25 : decode cJ6_bitCount_0f7a4 25 = .ok (.iload_n 0, 1) := by decide +kernel
theorem dJ6_bitCount_0f7a4_26 : decode cJ6_bitCount_0f7a4 26 = .ok (.iconst 4, 1) := by decide +kernel
theorem dJ6_bitCount_0f7a4_27 : decode cJ6_bitCount_0f7a4 27 = .ok (.iushr, 1) := by decide +kernel
theorem dJ6_bitCount_0f7a4_28 : decode cJ6_bitCount_0f7a4 28 = .ok (.iadd, 1) := by decide +kernel
theorem dJ6_bitCount_0f7a4_29 : decode cJ6_bitCount_0f7a4 29 = .ok (.ldc_w 267, 3) := by decide +kernel
theorem dJ6_bitCount_0f7a4_32 : decode cJ6_bitCount_0f7a4 32 = .ok (.iand, 1) := by decide +kernel
theorem dJ6_bitCount_0f7a4_33 : decode cJ6_bitCount_0f7a4 33 = .ok (.istore_n 0, 1) := by decide +kernel
theorem dJ6_bitCount_0f7a4_34 : decode cJ6_bitCount_0f7a4 34 = .ok (.iload_n 0, 1) := by decide +kernel
theorem dJ6_bitCount_0f7a4_35 : decode cJ6_bitCount_0f7a4 35 = .ok (.iload_n 0, 1) := by decide +kernel
theorem dJ6_bitCount_0f7a4_36 : decode cJ6_bitCount_0f7a4 36 = .ok (.bipush 8, 2) := by decide +kernel
theorem dJ6_bitCount_0f7a4_38 : decode cJ6_bitCount_0f7a4 38 = .ok (.iushr, 1) := by decide +kernel
theorem dJ6_bitCount_0f7a4_39 : decode cJ6_bitCount_0f7a4 39 = .ok (.iadd, 1) := by decide +kernel
theorem dJ6_bitCount_0f7a4_40 : decode cJ6_bitCount_0f7a4 40 = .ok (.istore_n 0, 1) := by decide +kernel
theorem dJ6_bitCount_0f7a4_41 : decode cJ6_bitCount_0f7a4 41 = .ok (.iload_n 0, 1) := by decide +kernel
theorem dJ6_bitCount_0f7a4_42 : decode cJ6_bitCount_0f7a4 42 = .ok (.iload_n 0, 1) := by decide +kernel
theorem dJ6_bitCount_0f7a4_43 : decode cJ6_bitCount_0f7a4 43 = .ok (.bipush 16, 2) := by decide +kernel
theorem dJ6_bitCount_0f7a4_45 : decode cJ6_bitCount_0f7a4 45 = .ok (.iushr, 1) := by decide +kernel
theorem dJ6_bitCount_0f7a4_46 : decode cJ6_bitCount_0f7a4 46 = .ok (.iadd, 1) := by decide +kernel
theorem dJ6_bitCount_0f7a4_47 : decode cJ6_bitCount_0f7a4 47 = .ok (.istore_n 0, 1) := by decide +kernel
theorem dJ6_bitCount_0f7a4_48 : decode cJ6_bitCount_0f7a4 48 = .ok (.iload_n 0, 1) := by decide +kernel
theorem dJ6_bitCount_0f7a4_49 : decode cJ6_bitCount_0f7a4 49 = .ok (.bipush 63, 2) := by decide +kernel
theorem dJ6_bitCount_0f7a4_51 : decode cJ6_bitCount_0f7a4 51 = .ok (.iand, 1) := by decide +kernel
theorem dJ6_bitCount_0f7a4_52 : decode cJ6_bitCount_0f7a4 52 = .ok (.ireturn, 1) := by decide +kernel
theorem dJ13_bitCount_95d88_0 : decode cJ13_bitCount_95d88 0 = .ok (.lload_n 0, 1) := by decide +kernel
theorem dJ13_bitCount_95d88_1 : decode cJ13_bitCount_95d88 1 = .ok (.lload_n 0, 1) := by decide +kernel
theorem dJ13_bitCount_95d88_2 : decode cJ13_bitCount_95d88 2 = .ok (.iconst 1, 1) := by decide +kernel
theorem dJ13_bitCount_95d88_3 : decode cJ13_bitCount_95d88 3 = .ok (.lushr, 1) := by decide +kernel
theorem dJ13_bitCount_95d88_4 : decode cJ13_bitCount_95d88 4 = .ok (.ldc2_w 314, 3) := by decide +kernel
theorem dJ13_bitCount_95d88_7 : decode cJ13_bitCount_95d88 7 = .ok (.land, 1) := by decide +kernel
theorem dJ13_bitCount_95d88_8 : decode cJ13_bitCount_95d88 8 = .ok (.lsub, 1) := by decide +kernel
theorem dJ13_bitCount_95d88_9 : decode cJ13_bitCount_95d88 9 = .ok (.lstore_n 0, 1) := by decide +kernel
theorem dJ13_bitCount_95d88_10 : decode cJ13_bitCount_95d88 10 = .ok (.lload_n 0, 1) := by decide +kernel
theorem dJ13_bitCount_95d88_11 : decode cJ13_bitCount_95d88 11 = .ok (.ldc2_w 316, 3) := by decide +kernel
theorem dJ13_bitCount_95d88_14 : decode cJ13_bitCount_95d88 14 = .ok (.land, 1) := by decide +kernel
theorem dJ13_bitCount_95d88_15 : decode cJ13_bitCount_95d88 15 = .ok (.lload_n 0, 1) := by decide +kernel
theorem dJ13_bitCount_95d88_16 : decode cJ13_bitCount_95d88 16 = .ok (.iconst 2, 1) := by decide +kernel
theorem dJ13_bitCount_95d88_17 : decode cJ13_bitCount_95d88 17 = .ok (.lushr, 1) := by decide +kernel
theorem dJ13_bitCount_95d88_18 : decode cJ13_bitCount_95d88 18 = .ok (.ldc2_w 316, 3) := by decide +kernel
theorem dJ13_bitCount_95d88_21 : decode cJ13_bitCount_95d88 21 = .ok (.land, 1) := by decide +kernel
theorem dJ13_bitCount_95d88_22 : decode cJ13_bitCount_95d88 22 = .ok (.ladd, 1) := by decide +kernel
theorem dJ13_bitCount_95d88_23 : decode cJ13_bitCount_95d88 23 = .ok (.lstore_n 0, 1) := by decide +kernel
theorem dJ13_bitCount_95d88_24 : decode cJ13_bitCount_95d88 24 = .ok (.lload_n 0, 1) := by decide +kernel
theorem dJ13_bitCount_95d88_25 : decode cJ13_bitCount_95d88 25 = .ok (.lload_n 0, 1) := by decide +kernel
theorem dJ13_bitCount_95d88_26 : decode cJ13_bitCount_95d88 26 = .ok (.iconst 4, 1) := by decide +kernel
theorem dJ13_bitCount_95d88_27 : decode cJ13_bitCount_95d88 27 = .ok (.lushr, 1) := by decide +kernel
theorem dJ13_bitCount_95d88_28 : decode cJ13_bitCount_95d88 28 = .ok (.ladd, 1) := by decide +kernel
theorem dJ13_bitCount_95d88_29 : decode cJ13_bitCount_95d88 29 = .ok (.ldc2_w 318, 3) := by decide +kernel
theorem dJ13_bitCount_95d88_32 : decode cJ13_bitCount_95d88 32 = .ok (.land, 1) := by decide +kernel
theorem dJ13_bitCount_95d88_33 : decode cJ13_bitCount_95d88 33 = .ok (.lstore_n 0, 1) := by decide +kernel
theorem dJ13_bitCount_95d88_34 : decode cJ13_bitCount_95d88 34 = .ok (.lload_n 0, 1) := by decide +kernel
theorem dJ13_bitCount_95d88_35 : decode cJ13_bitCount_95d88 35 = .ok (.lload_n 0, 1) := by decide +kernel
theorem dJ13_bitCount_95d88_36 : decode cJ13_bitCount_95d88 36 = .ok (.bipush 8, 2) := by decide +kernel
theorem dJ13_bitCount_95d88_38 : decode cJ13_bitCount_95d88 38 = .ok (.lushr, 1) := by decide +kernel
theorem dJ13_bitCount_95d88_39 : decode cJ13_bitCount_95d88 39 = .ok (.ladd, 1) := by decide +kernel
theorem dJ13_bitCount_95d88_40 : decode cJ13_bitCount_95d88 40 = .ok (.lstore_n 0, 1) := by decide +kernel
theorem dJ13_bitCount_95d88_41 : decode cJ13_bitCount_95d88 41 = .ok (.lload_n 0, 1) := by decide +kernel
theorem dJ13_bitCount_95d88_42 : decode cJ13_bitCount_95d88 42 = .ok (.lload_n 0, 1) := by decide +kernel
theorem dJ13_bitCount_95d88_43 : decode cJ13_bitCount_95d88 43 = .ok (.bipush 16, 2) := by decide +kernel
theorem dJ13_bitCount_95d88_45 : decode cJ13_bitCount_95d88 45 = .ok (.lushr, 1) := by decide +kernel
theorem dJ13_bitCount_95d88_46 : decode cJ13_bitCount_95d88 46 = .ok (.ladd, 1) := by decide +kernel
theorem dJ13_bitCount_95d88_47 : decode cJ13_bitCount_95d88 47 = .ok (.lstore_n 0, 1) := by decide +kernel
theorem dJ13_bitCount_95d88_48 : decode cJ13_bitCount_95d88 48 = .ok (.lload_n 0, 1) := by decide +kernel
theorem dJ13_bitCount_95d88_49 : decode cJ13_bitCount_95d88 49 = .ok (.lload_n 0, 1) := by decide +kernel
theorem dJ13_bitCount_95d88_50 : decode cJ13_bitCount_95d88 50 = .ok (.bipush 32, 2) := by decide +kernel
theorem dJ13_bitCount_95d88_52 : decode cJ13_bitCount_95d88 52 = .ok (.lushr, 1) := by decide +kernel
theorem dJ13_bitCount_95d88_53 : decode cJ13_bitCount_95d88 53 = .ok (.ladd, 1) := by decide +kernel
theorem dJ13_bitCount_95d88_54 : decode cJ13_bitCount_95d88 54 = .ok (.lstore_n 0, 1) := by decide +kernel
theorem dJ13_bitCount_95d88_55 : decode cJ13_bitCount_95d88 55 = .ok (.lload_n 0, 1) := by decide +kernel
theorem dJ13_bitCount_95d88_56 : decode cJ13_bitCount_95d88 56 = .ok (.l2i, 1) := by decide +kernel
theorem dJ13_bitCount_95d88_57 : decode cJ13_bitCount_95d88 57 = .ok (.bipush 127, 2) := by decide +kernel
theorem dJ13_bitCount_95d88_59 : decode cJ13_bitCount_95d88 59 = .ok (.iand, 1) := by decide +kernel
theorem dJ13_bitCount_95d88_60 : decode cJ13_bitCount_95d88 60 = .ok (.ireturn, 1) := by decide +kernel
theorem dL_from_0 : decode cL_from 0 = .ok (.aload_n 0, 1) := by decide +kernel
theorem dL_from_1 : decode cL_from 1 = .ok (.arraylength, 1) := by decide +kernel
theorem dL_from_2 : decode cL_from 2 = .ok (.ifCond .ne 14, 3) := by decide +kernel
theorem dL_from_5 : decode cL_from 5 = .ok (.sipush 821, 3) := by decide +kernel
theorem dL_from_8 : decode cL_from 8 = .ok (.iload_n 1, 1) := by decide +kernel
theorem dL_from_9 : decode cL_from 9 = .ok (.imul, 1) := by decide +kernel
theorem dL_from_10 : decode cL_from 10 = .ok (.bipush 77, 2) := by decide +kernel
theorem dL_from_12 : decode cL_from 12 = .ok (.iadd, 1) := by decide +kernel
theorem dL_from_13 : decode cL_from 13 = .ok (.goto 14, 3) := by decide +kernel
theorem dL_from_16 : decode cL_from 16 = .ok (.aload_n 0, 1) := by decide +kernel
theorem dL_from_17 : decode cL_from 17 = .ok (.iload_n 1, 1) := by decide +kernel
theorem dL_from_18 : decode cL_from 18 = .ok (.aload_n 0, 1) := by decide +kernel
theorem dL_from_19 : decode cL_from 19 = .ok (.arraylength, 1) := by decide +kernel
theorem dL_from_20 : decode cL_from 20 = .ok (.irem, 1) := by decide +kernel
theorem dL_from_21 : decode cL_from 21 = .ok (.iaload, 1) := by decide +kernel
theorem dL_from_22 : decode cL_from 22 = .ok (.ldc 7, 2) := by decide +kernel
theorem dL_from_24 : decode cL_from 24 = .ok (.iload_n 1, 1) := by decide +kernel
theorem dL_from_25 : decode cL_from 25 = .ok (.imul, 1) := by decide +kernel
theorem dL_from_26 : decode cL_from 26 = .ok (.ixor, 1) := by decide +kernel
theorem dL_from_27 : decode cL_from 27 = .ok (.istore_n 3, 1) := by decide +kernel
theorem dL_from_28 : decode cL_from 28 = .ok (.iload_n 3, 1) := by decide +kernel
theorem dL_from_29 : decode cL_from 29 = .ok (.ldc 8, 2) := by decide +kernel
theorem dL_from_31 : decode cL_from 31 = .ok (.iand, 1) := by decide +kernel
theorem dL_from_32 : decode cL_from 32 = .ok (.iload_n 2, 1) := by decide +kernel
theorem dL_from_33 : decode cL_from 33 = .ok (.irem, 1) := by decide +kernel
theorem dL_from_34 : decode cL_from 34 = .ok (.ireturn, 1) := by decide +kernel
theorem dL_season_0 : decode cL_season 0 = .ok (.iconst (-1), 1) := by decide +kernel
theorem dL_season_1 : decode cL_season 1 = .ok (.istore_n 3, 1) := by decide +kernel
theorem dL_season_2 : decode cL_season 2 = .ok (.iconst 5, 1) := by decide +kernel
theorem dL_season_3 : decode cL_season 3 = .ok (.istore 4, 2) := by decide +kernel
theorem dL_season_5 : decode cL_season 5 = .ok (.iload 4, 2) := by decide +kernel
theorem dL_season_7 : decode cL_season 7 = .ok (.ifCond .lt 55, 3) := by decide +kernel
theorem dL_season_10 : decode cL_season 10 = .ok (.aload_n 1, 1) := by decide +kernel
theorem dL_season_11 : decode cL_season 11 = .ok (.bipush 6, 2) := by decide +kernel
theorem dL_season_13 : decode cL_season 13 = .ok (.iload_n 2, 1) := by decide +kernel
theorem dL_season_14 : decode cL_season 14 = .ok (.imul, 1) := by decide +kernel
theorem dL_season_15 : decode cL_season 15 = .ok (.iload 4, 2) := by decide +kernel
theorem dL_season_17 : decode cL_season 17 = .ok (.iadd, 1) := by decide +kernel
theorem dL_season_18 : decode cL_season 18 = .ok (.iaload, 1) := by decide +kernel
theorem dL_season_19 : decode cL_season 19 = .ok (.iconst 1, 1) := by decide +kernel
theorem dL_season_20 : decode cL_season 20 = .ok (.isub, 1) := by decide +kernel
theorem dL_season_21 : decode cL_season 21 = .ok (.istore 5, 2) := by decide +kernel
theorem dL_season_23 : decode cL_season 23 = .ok (.iload 5, 2) := by decide +kernel
theorem dL_season_25 : decode cL_season 25 = .ok (.ifCond .lt 29, 3) := by decide +kernel
theorem dL_season_28 : decode cL_season 28 = .ok (.aload_n 0, 1) := by decide +kernel
theorem dL_season_29 : decode cL_season 29 = .ok (.iload 5, 2) := by decide +kernel
theorem dL_season_31 : decode cL_season 31 = .ok (.iaload, 1) := by decide +kernel
theorem dL_season_32 : decode cL_season 32 = .ok (.iconst 4, 1) := by decide +kernel
theorem dL_season_33 : decode cL_season 33 = .ok (.ishr, 1) := by decide +kernel
theorem dL_season_34 : decode cL_season 34 = .ok (.bipush 7, 2) := by decide +kernel
theorem dL_season_36 : decode cL_season 36 = .ok (.iand, 1) := by decide +kernel
theorem dL_season_37 : decode cL_season 37 = .ok (.ifCond .le 17, 3) := by decide +kernel
theorem dL_season_40 : decode cL_season 40 = .ok (.aload_n 0, 1) := by decide +kernel
theorem dL_season_41 : decode cL_season 41 = .ok (.iload 5, 2) := by decide +kernel
theorem dL_season_43 : decode cL_season 43 = .ok (.iaload, 1) := by decide +kernel
theorem dL_season_44 : decode cL_season 44 = .ok (.iconst 4, 1) := by decide +kernel
theorem dL_season_45 : decode cL_season 45 = .ok (.ishr, 1) := by decide +kernel
theorem dL_season_46 : decode cL_season 46 = .ok (.bipush 7, 2) := by decide +kernel
theorem dL_season_48 : decode cL_season 48 = .ok (.iand, 1) := by decide +kernel
theorem dL_season_49 : decode cL_season 49 = .ok (.iconst 1, 1) := by decide +kernel
theorem dL_season_50 : decode cL_season 50 = .ok (.isub, 1) := by decide +kernel
theorem dL_season_51 : decode cL_season 51 = .ok (.goto 4, 3) := by decide +kernel
theorem dL_season_54 : decode cL_season 54 = .ok (.iload_n 3, 1) := by decide +kernel
theorem dL_season_55 : decode cL_season 55 = .ok (.istore_n 3, 1) := by decide +kernel
theorem dL_season_56 : decode cL_season 56 = .ok (.iinc 4 (-1), 3) := by decide +kernel
theorem dL_season_59 : decode cL_season 59 = .ok (.goto (-54), 3) := by decide +kernel
theorem dL_season_62 : decode cL_season 62 = .ok (.iload_n 3, 1) := by decide +kernel
theorem dL_season_63 : decode cL_season 63 = .ok (.ireturn, 1) := by decide +kernel
theorem dL_signs_0 : decode cL_signs 0 = .ok (.iconst 0, 1) := by decide +kernel
theorem dL_signs_1 : decode cL_signs 1 = .ok (.istore_n 3, 1) := by decide +kernel
theorem dL_signs_2 : decode cL_signs 2 = .ok (.iconst 0, 1) := by decide +kernel
theorem dL_signs_3 : decode cL_signs 3 = .ok (.istore 4, 2) := by decide +kernel
theorem dL_signs_5 : decode cL_signs 5 = .ok (.iload 4, 2) := by decide +kernel
theorem dL_signs_7 : decode cL_signs 7 = .ok (.bipush 6, 2) := by decide +kernel
theorem dL_signs_9 : decode cL_signs 9 = .ok (.if_icmp .ge 44, 3) := by decide +kernel
theorem dL_signs_12 : decode cL_signs 12 = .ok (.iload_n 3, 1) := by decide +kernel
theorem dL_signs_13 : decode cL_signs 13 = .ok (.aload_n 1, 1) := by decide +kernel
theorem dL_signs_14 : decode cL_signs 14 = .ok (.bipush 6, 2) := by decide +kernel
theorem dL_signs_16 : decode cL_signs 16 = .ok (.iload_n 2, 1) := by decide +kernel
theorem dL_signs_17 : decode cL_signs 17 = .ok (.imul, 1) := by decide +kernel
theorem dL_signs_18 : decode cL_signs 18 = .ok (.iload 4, 2) := by decide +kernel
theorem dL_signs_20 : decode cL_signs 20 = .ok (.iadd, 1) := by decide +kernel
theorem dL_signs_21 : decode cL_signs 21 = .ok (.iaload, 1) := by decide +kernel
theorem dL_signs_22 : decode cL_signs 22 = .ok (.ifCond .le 22, 3) := by decide +kernel
theorem dL_signs_25 : decode cL_signs 25 = .ok (.aload_n 0, 1) := by decide +kernel
theorem dL_signs_26 : decode cL_signs 26 = .ok (.aload_n 1, 1) := by decide +kernel
theorem dL_signs_27 : decode cL_signs 27 = .ok (.bipush 6, 2) := by decide +kernel
theorem dL_signs_29 : decode cL_signs 29 = .ok (.iload_n 2, 1) := by decide +kernel
theorem dL_signs_30 : decode cL_signs 30 = .ok (.imul, 1) := by decide +kernel
theorem dL_signs_31 : decode cL_signs 31 = .ok (.iload 4, 2) := by decide +kernel
theorem dL_signs_33 : decode cL_signs 33 = .ok (.iadd, 1) := by decide +kernel
theorem dL_signs_34 : decode cL_signs 34 = .ok (.iaload, 1) := by decide +kernel
theorem dL_signs_35 : decode cL_signs 35 = .ok (.iconst 1, 1) := by decide +kernel
theorem dL_signs_36 : decode cL_signs 36 = .ok (.isub, 1) := by decide +kernel
theorem dL_signs_37 : decode cL_signs 37 = .ok (.iaload, 1) := by decide +kernel
theorem dL_signs_38 : decode cL_signs 38 = .ok (.bipush 8, 2) := by decide +kernel
theorem dL_signs_40 : decode cL_signs 40 = .ok (.ishr, 1) := by decide +kernel
theorem dL_signs_41 : decode cL_signs 41 = .ok (.goto 4, 3) := by decide +kernel
theorem dL_signs_44 : decode cL_signs 44 = .ok (.iconst 0, 1) := by decide +kernel
theorem dL_signs_45 : decode cL_signs 45 = .ok (.ior, 1) := by decide +kernel
theorem dL_signs_46 : decode cL_signs 46 = .ok (.istore_n 3, 1) := by decide +kernel
theorem dL_signs_47 : decode cL_signs 47 = .ok (.iinc 4 1, 3) := by decide +kernel
theorem dL_signs_50 : decode cL_signs 50 = .ok (.goto (-45), 3) := by decide +kernel
theorem dL_signs_53 : decode cL_signs 53 = .ok (.iload_n 3, 1) := by decide +kernel
theorem dL_signs_54 : decode cL_signs 54 = .ok (.ireturn, 1) := by decide +kernel
theorem dL_run_0 : decode cL_run 0 = .ok (.iconst 0, 1) := by decide +kernel
theorem dL_run_1 : decode cL_run 1 = .ok (.istore_n 3, 1) := by decide +kernel
theorem dL_run_2 : decode cL_run 2 = .ok (.aload_n 0, 1) := by decide +kernel
theorem dL_run_3 : decode cL_run 3 = .ok (.aload_n 1, 1) := by decide +kernel
theorem dL_run_4 : decode cL_run 4 = .ok (.iload_n 2, 1) := by decide +kernel
theorem dL_run_5 : decode cL_run 5 = .ok (.invokestatic 9, 3) := by decide +kernel
theorem dL_run_8 : decode cL_run 8 = .ok (.ifCond .lt 7, 3) := by decide +kernel
theorem dL_run_11 : decode cL_run 11 = .ok (.iconst 1, 1) := by decide +kernel
theorem dL_run_12 : decode cL_run 12 = .ok (.goto 4, 3) := by decide +kernel
theorem dL_run_15 : decode cL_run 15 = .ok (.iconst 0, 1) := by decide +kernel
theorem dL_run_16 : decode cL_run 16 = .ok (.istore 4, 2) := by decide +kernel
theorem dL_run_18 : decode cL_run 18 = .ok (.iload 4, 2) := by decide +kernel
theorem dL_run_20 : decode cL_run 20 = .ok (.ifCond .eq 38, 3) := by decide +kernel
theorem dL_run_23 : decode cL_run 23 = .ok (.iinc 3 1, 3) := by decide +kernel
theorem dL_run_26 : decode cL_run 26 = .ok (.iload_n 3, 1) := by decide +kernel
theorem dL_run_27 : decode cL_run 27 = .ok (.iload_n 2, 1) := by decide +kernel
theorem dL_run_28 : decode cL_run 28 = .ok (.if_icmp .gt 24, 3) := by decide +kernel
theorem dL_run_31 : decode cL_run 31 = .ok (.aload_n 0, 1) := by decide +kernel
theorem dL_run_32 : decode cL_run 32 = .ok (.aload_n 1, 1) := by decide +kernel
theorem dL_run_33 : decode cL_run 33 = .ok (.iload_n 2, 1) := by decide +kernel
theorem dL_run_34 : decode cL_run 34 = .ok (.iload_n 3, 1) := by decide +kernel
theorem dL_run_35 : decode cL_run 35 = .ok (.isub, 1) := by decide +kernel
theorem dL_run_36 : decode cL_run 36 = .ok (.invokestatic 9, 3) := by decide +kernel
theorem dL_run_39 : decode cL_run 39 = .ok (.aload_n 0, 1) := by decide +kernel
theorem dL_run_40 : decode cL_run 40 = .ok (.aload_n 1, 1) := by decide +kernel
theorem dL_run_41 : decode cL_run 41 = .ok (.iload_n 2, 1) := by decide +kernel
theorem dL_run_42 : decode cL_run 42 = .ok (.invokestatic 9, 3) := by decide +kernel
theorem dL_run_45 : decode cL_run 45 = .ok (.if_icmp .ne 7, 3) := by decide +kernel
theorem dL_run_48 : decode cL_run 48 = .ok (.iconst 1, 1) := by decide +kernel
theorem dL_run_49 : decode cL_run 49 = .ok (.goto 4, 3) := by decide +kernel
theorem dL_run_52 : decode cL_run 52 = .ok (.iconst 0, 1) := by decide +kernel
theorem dL_run_53 : decode cL_run 53 = .ok (.istore 4, 2) := by decide +kernel
theorem dL_run_55 : decode cL_run 55 = .ok (.goto (-37), 3) := by decide +kernel
theorem dL_run_58 : decode cL_run 58 = .ok (.iload_n 3, 1) := by decide +kernel
theorem dL_run_59 : decode cL_run 59 = .ok (.ireturn, 1) := by decide +kernel
theorem dL_has_0 : decode cL_has 0 = .ok (.iconst 0, 1) := by decide +kernel
theorem dL_has_1 : decode cL_has 1 = .ok (.istore_n 3, 1) := by decide +kernel
theorem dL_has_2 : decode cL_has 2 = .ok (.iconst 0, 1) := by decide +kernel
theorem dL_has_3 : decode cL_has 3 = .ok (.istore 4, 2) := by decide +kernel
theorem dL_has_5 : decode cL_has 5 = .ok (.iload 4, 2) := by decide +kernel
theorem dL_has_7 : decode cL_has 7 = .ok (.bipush 6, 2) := by decide +kernel
theorem dL_has_9 : decode cL_has 9 = .ok (.if_icmp .ge 32, 3) := by decide +kernel
theorem dL_has_12 : decode cL_has 12 = .ok (.iload_n 3, 1) := by decide +kernel
theorem dL_has_13 : decode cL_has 13 = .ok (.ifCond .ne 16, 3) := by decide +kernel
theorem dL_has_16 : decode cL_has 16 = .ok (.aload_n 0, 1) := by decide +kernel
theorem dL_has_17 : decode cL_has 17 = .ok (.bipush 6, 2) := by decide +kernel
theorem dL_has_19 : decode cL_has 19 = .ok (.iload_n 1, 1) := by decide +kernel
theorem dL_has_20 : decode cL_has 20 = .ok (.imul, 1) := by decide +kernel
theorem dL_has_21 : decode cL_has 21 = .ok (.iload 4, 2) := by decide +kernel
theorem dL_has_23 : decode cL_has 23 = .ok (.iadd, 1) := by decide +kernel
theorem dL_has_24 : decode cL_has 24 = .ok (.iaload, 1) := by decide +kernel
theorem dL_has_25 : decode cL_has 25 = .ok (.iload_n 2, 1) := by decide +kernel
theorem dL_has_26 : decode cL_has 26 = .ok (.if_icmp .ne 7, 3) := by decide +kernel
theorem dL_has_29 : decode cL_has 29 = .ok (.iconst 1, 1) := by decide +kernel
theorem dL_has_30 : decode cL_has 30 = .ok (.goto 4, 3) := by decide +kernel
theorem dL_has_33 : decode cL_has 33 = .ok (.iconst 0, 1) := by decide +kernel
theorem dL_has_34 : decode cL_has 34 = .ok (.istore_n 3, 1) := by decide +kernel
theorem dL_has_35 : decode cL_has 35 = .ok (.iinc 4 1, 3) := by decide +kernel
theorem dL_has_38 : decode cL_has 38 = .ok (.goto (-33), 3) := by decide +kernel
theorem dL_has_41 : decode cL_has 41 = .ok (.iload_n 3, 1) := by decide +kernel
theorem dL_has_42 : decode cL_has 42 = .ok (.ireturn, 1) := by decide +kernel
theorem dL_mixed_0 : decode cL_mixed 0 = .ok (.aload_n 0, 1) := by decide +kernel
theorem dL_mixed_1 : decode cL_mixed 1 = .ok (.aload_n 1, 1) := by decide +kernel
theorem dL_mixed_2 : decode cL_mixed 2 = .ok (.iload_n 2, 1) := by decide +kernel
theorem dL_mixed_3 : decode cL_mixed 3 = .ok (.invokestatic 9, 3) := by decide +kernel
theorem dL_mixed_6 : decode cL_mixed 6 = .ok (.istore_n 3, 1) := by decide +kernel
theorem dL_mixed_7 : decode cL_mixed 7 = .ok (.iconst (-1), 1) := by decide +kernel
theorem dL_mixed_8 : decode cL_mixed 8 = .ok (.istore 4, 2) := by decide +kernel
theorem dL_mixed_10 : decode cL_mixed 10 = .ok (.iconst 5, 1) := by decide +kernel
theorem dL_mixed_11 : decode cL_mixed 11 = .ok (.istore 5, 2) := by decide +kernel
theorem dL_mixed_13 : decode cL_mixed 13 = .ok (.iload 5, 2) := by decide +kernel
theorem dL_mixed_15 : decode cL_mixed 15 = .ok (.ifCond .lt 67, 3) := by decide +kernel
theorem dL_mixed_18 : decode cL_mixed 18 = .ok (.aload_n 1, 1) := by decide +kernel
theorem dL_mixed_19 : decode cL_mixed 19 = .ok (.bipush 6, 2) := by decide +kernel
theorem dL_mixed_21 : decode cL_mixed 21 = .ok (.iload_n 2, 1) := by decide +kernel
theorem dL_mixed_22 : decode cL_mixed 22 = .ok (.imul, 1) := by decide +kernel
theorem dL_mixed_23 : decode cL_mixed 23 = .ok (.iload 5, 2) := by decide +kernel
theorem dL_mixed_25 : decode cL_mixed 25 = .ok (.iadd, 1) := by decide +kernel
theorem dL_mixed_26 : decode cL_mixed 26 = .ok (.iaload, 1) := by decide +kernel
theorem dL_mixed_27 : decode cL_mixed 27 = .ok (.ifCond .le 26, 3) := by decide +kernel
theorem dL_mixed_30 : decode cL_mixed 30 = .ok (.aload_n 0, 1) := by decide +kernel
theorem dL_mixed_31 : decode cL_mixed 31 = .ok (.aload_n 1, 1) := by decide +kernel
theorem dL_mixed_32 : decode cL_mixed 32 = .ok (.bipush 6, 2) := by decide +kernel
theorem dL_mixed_34 : decode cL_mixed 34 = .ok (.iload_n 2, 1) := by decide +kernel
theorem dL_mixed_35 : decode cL_mixed 35 = .ok (.imul, 1) := by decide +kernel
theorem dL_mixed_36 : decode cL_mixed 36 = .ok (.iload 5, 2) := by decide +kernel
theorem dL_mixed_38 : decode cL_mixed 38 = .ok (.iadd, 1) := by decide +kernel
theorem dL_mixed_39 : decode cL_mixed 39 = .ok (.iaload, 1) := by decide +kernel
theorem dL_mixed_40 : decode cL_mixed 40 = .ok (.iconst 1, 1) := by decide +kernel
theorem dL_mixed_41 : decode cL_mixed 41 = .ok (.isub, 1) := by decide +kernel
theorem dL_mixed_42 : decode cL_mixed 42 = .ok (.iaload, 1) := by decide +kernel
theorem dL_mixed_43 : decode cL_mixed 43 = .ok (.iconst 4, 1) := by decide +kernel
theorem dL_mixed_44 : decode cL_mixed 44 = .ok (.ishr, 1) := by decide +kernel
theorem dL_mixed_45 : decode cL_mixed 45 = .ok (.bipush 7, 2) := by decide +kernel
theorem dL_mixed_47 : decode cL_mixed 47 = .ok (.iand, 1) := by decide +kernel
theorem dL_mixed_48 : decode cL_mixed 48 = .ok (.iconst 1, 1) := by decide +kernel
theorem dL_mixed_49 : decode cL_mixed 49 = .ok (.isub, 1) := by decide +kernel
theorem dL_mixed_50 : decode cL_mixed 50 = .ok (.goto 4, 3) := by decide +kernel
theorem dL_mixed_53 : decode cL_mixed 53 = .ok (.iconst (-1), 1) := by decide +kernel
theorem dL_mixed_54 : decode cL_mixed 54 = .ok (.istore 6, 2) := by decide +kernel
theorem dL_mixed_56 : decode cL_mixed 56 = .ok (.iload 6, 2) := by decide +kernel
theorem dL_mixed_58 : decode cL_mixed 58 = .ok (.ifCond .lt 14, 3) := by decide +kernel
theorem dL_mixed_61 : decode cL_mixed 61 = .ok (.iload 6, 2) := by decide +kernel
theorem dL_mixed_63 : decode cL_mixed 63 = .ok (.iload_n 3, 1) := by decide +kernel
theorem dL_mixed_64 : decode cL_mixed 64 = .ok (.if_icmp .eq 8, 3) := by decide +kernel
theorem dL_mixed_67 : decode cL_mixed 67 = .ok (.iload 5, 2) := by decide +kernel
theorem dL_mixed_69 : decode cL_mixed 69 = .ok (.goto 5, 3) := by decide +kernel
theorem dL_mixed_72 : decode cL_mixed 72 = .ok (.iload 4, 2) := by decide +kernel
theorem dL_mixed_74 : decode cL_mixed 74 = .ok (.istore 4, 2) := by decide +kernel
theorem dL_mixed_76 : decode cL_mixed 76 = .ok (.iinc 5 (-1), 3) := by decide +kernel
theorem dL_mixed_79 : decode cL_mixed 79 = .ok (.goto (-66), 3) := by decide +kernel
theorem dL_mixed_82 : decode cL_mixed 82 = .ok (.iload 4, 2) := by decide +kernel
theorem dL_mixed_84 : decode cL_mixed 84 = .ok (.ireturn, 1) := by decide +kernel
theorem dL_again_0 : decode cL_again 0 = .ok (.iconst (-1), 1) := by decide +kernel
theorem dL_again_1 : decode cL_again 1 = .ok (.istore_n 3, 1) := by decide +kernel
theorem dL_again_2 : decode cL_again 2 = .ok (.iconst 5, 1) := by decide +kernel
theorem dL_again_3 : decode cL_again 3 = .ok (.istore 4, 2) := by decide +kernel
theorem dL_again_5 : decode cL_again 5 = .ok (.iload 4, 2) := by decide +kernel
theorem dL_again_7 : decode cL_again 7 = .ok (.ifCond .lt 130, 3) := by decide +kernel
theorem dL_again_10 : decode cL_again 10 = .ok (.aload_n 0, 1) := by decide +kernel
theorem dL_again_11 : decode cL_again 11 = .ok (.bipush 6, 2) := by decide +kernel
theorem dL_again_13 : decode cL_again 13 = .ok (.iload_n 2, 1) := by decide +kernel
theorem dL_again_14 : decode cL_again 14 = .ok (.imul, 1) := by decide +kernel
theorem dL_again_15 : decode cL_again 15 = .ok (.iload 4, 2) := by decide +kernel
theorem dL_again_17 : decode cL_again 17 = .ok (.iadd, 1) := by decide +kernel
theorem dL_again_18 : decode cL_again 18 = .ok (.iaload, 1) := by decide +kernel
theorem dL_again_19 : decode cL_again 19 = .ok (.istore 5, 2) := by decide +kernel
theorem dL_again_21 : decode cL_again 21 = .ok (.iconst 0, 1) := by decide +kernel
theorem dL_again_22 : decode cL_again 22 = .ok (.istore 6, 2) := by decide +kernel
theorem dL_again_24 : decode cL_again 24 = .ok (.iconst 0, 1) := by decide +kernel
theorem dL_again_25 : decode cL_again 25 = .ok (.istore 7, 2) := by decide +kernel
theorem dL_again_27 : decode cL_again 27 = .ok (.iload 7, 2) := by decide +kernel
theorem dL_again_29 : decode cL_again 29 = .ok (.iload 4, 2) := by decide +kernel
theorem dL_again_31 : decode cL_again 31 = .ok (.if_icmp .ge 35, 3) := by decide +kernel
theorem dL_again_34 : decode cL_again 34 = .ok (.iload 6, 2) := by decide +kernel
theorem dL_again_36 : decode cL_again 36 = .ok (.ifCond .ne 17, 3) := by decide +kernel
theorem dL_again_39 : decode cL_again 39 = .ok (.aload_n 0, 1) := by decide +kernel
theorem dL_again_40 : decode cL_again 40 = .ok (.bipush 6, 2) := by decide +kernel
theorem dL_again_42 : decode cL_again 42 = .ok (.iload_n 2, 1) := by decide +kernel
theorem dL_again_43 : decode cL_again 43 = .ok (.imul, 1) := by decide +kernel
theorem dL_again_44 : decode cL_again 44 = .ok (.iload 7, 2) := by decide +kernel
theorem dL_again_46 : decode cL_again 46 = .ok (.iadd, 1) := by decide +kernel
theorem dL_again_47 : decode cL_again 47 = .ok (.iaload, 1) := by decide +kernel
theorem dL_again_48 : decode cL_again 48 = .ok (.iload 5, 2) := by decide +kernel
theorem dL_again_50 : decode cL_again 50 = .ok (.if_icmp .ne 7, 3) := by decide +kernel
theorem dL_again_53 : decode cL_again 53 = .ok (.iconst 1, 1) := by decide +kernel
theorem dL_again_54 : decode cL_again 54 = .ok (.goto 4, 3) := by decide +kernel
theorem dL_again_57 : decode cL_again 57 = .ok (.iconst 0, 1) := by decide +kernel
theorem dL_again_58 : decode cL_again 58 = .ok (.istore 6, 2) := by decide +kernel
theorem dL_again_60 : decode cL_again 60 = .ok (.iinc 7 1, 3) := by decide +kernel
theorem dL_again_63 : decode cL_again 63 = .ok (.goto (-36), 3) := by decide +kernel
theorem dL_again_66 : decode cL_again 66 = .ok (.iconst 1, 1) := by decide +kernel
theorem dL_again_67 : decode cL_again 67 = .ok (.istore 7, 2) := by decide +kernel
theorem dL_again_69 : decode cL_again 69 = .ok (.iload 7, 2) := by decide +kernel
theorem dL_again_71 : decode cL_again 71 = .ok (.aload_n 1, 1) := by decide +kernel
theorem dL_again_72 : decode cL_again 72 = .ok (.iconst 0, 1) := by decide +kernel
theorem dL_again_73 : decode cL_again 73 = .ok (.iaload, 1) := by decide +kernel
theorem dL_again_74 : decode cL_again 74 = .ok (.if_icmp .gt 40, 3) := by decide +kernel
theorem dL_again_77 : decode cL_again 77 = .ok (.iload 7, 2) := by decide +kernel
theorem dL_again_79 : decode cL_again 79 = .ok (.iload_n 2, 1) := by decide +kernel
theorem dL_again_80 : decode cL_again 80 = .ok (.if_icmp .gt 34, 3) := by decide +kernel
theorem dL_again_83 : decode cL_again 83 = .ok (.iload 6, 2) := by decide +kernel
theorem dL_again_85 : decode cL_again 85 = .ok (.ifCond .ne 16, 3) := by decide +kernel
theorem dL_again_88 : decode cL_again 88 = .ok (.aload_n 0, 1) := by decide +kernel
theorem dL_again_89 : decode cL_again 89 = .ok (.iload_n 2, 1) := by decide +kernel
theorem dL_again_90 : decode cL_again 90 = .ok (.iload 7, 2) := by decide +kernel
theorem dL_again_92 : decode cL_again 92 = .ok (.isub, 1) := by decide +kernel
theorem dL_again_93 : decode cL_again 93 = .ok (.iload 5, 2) := by decide +kernel
theorem dL_again_95 : decode cL_again 95 = .ok (.invokestatic 15, 3) := by decide +kernel
theorem dL_again_98 : decode cL_again 98 = .ok (.ifCond .eq 7, 3) := by decide +kernel
theorem dL_again_101 : decode cL_again 101 = .ok (.iconst 1, 1) := by decide +kernel
theorem dL_again_102 : decode cL_again 102 = .ok (.goto 4, 3) := by decide +kernel
theorem dL_again_105 : decode cL_again 105 = .ok (.iconst 0, 1) := by decide +kernel
theorem dL_again_106 : decode cL_again 106 = .ok (.istore 6, 2) := by decide +kernel
theorem dL_again_108 : decode cL_again 108 = .ok (.iinc 7 1, 3) := by decide +kernel
theorem dL_again_111 : decode cL_again 111 = .ok (.goto (-42), 3) := by decide +kernel
theorem dL_again_114 : decode cL_again 114 = .ok (.iload 5, 2) := by decide +kernel
theorem dL_again_116 : decode cL_again 116 = .ok (.ifCond .le 13, 3) := by decide +kernel
theorem dL_again_119 : decode cL_again 119 = .ok (.iload 6, 2) := by decide +kernel
theorem dL_again_121 : decode cL_again 121 = .ok (.ifCond .eq 8, 3) := by decide +kernel
theorem dL_again_124 : decode cL_again 124 = .ok (.iload 4, 2) := by decide +kernel
theorem dL_again_126 : decode cL_again 126 = .ok (.goto 4, 3) := by decide +kernel
theorem dL_again_129 : decode cL_again 129 = .ok (.iload_n 3, 1) := by decide +kernel
theorem dL_again_130 : decode cL_again 130 = .ok (.istore_n 3, 1) := by decide +kernel
theorem dL_again_131 : decode cL_again 131 = .ok (.iinc 4 (-1), 3) := by decide +kernel
theorem dL_again_134 : decode cL_again 134 = .ok (.goto (-129), 3) := by decide +kernel
theorem dL_again_137 : decode cL_again 137 = .ok (.iload_n 3, 1) := by decide +kernel
theorem dL_again_138 : decode cL_again 138 = .ok (.ireturn, 1) := by decide +kernel
theorem dL_calls_0 : decode cL_calls 0 = .ok (.aload_n 0, 1) := by decide +kernel
theorem dL_calls_1 : decode cL_calls 1 = .ok (.aload_n 2, 1) := by decide +kernel
theorem dL_calls_2 : decode cL_calls 2 = .ok (.iload_n 3, 1) := by decide +kernel
theorem dL_calls_3 : decode cL_calls 3 = .ok (.invokestatic 19, 3) := by decide +kernel
theorem dL_calls_6 : decode cL_calls 6 = .ok (.aload_n 0, 1) := by decide +kernel
theorem dL_calls_7 : decode cL_calls 7 = .ok (.aload_n 2, 1) := by decide +kernel
theorem dL_calls_8 : decode cL_calls 8 = .ok (.iload_n 3, 1) := by decide +kernel
theorem dL_calls_9 : decode cL_calls 9 = .ok (.iconst 1, 1) := by decide +kernel
theorem dL_calls_10 : decode cL_calls 10 = .ok (.isub, 1) := by decide +kernel
theorem dL_calls_11 : decode cL_calls 11 = .ok (.invokestatic 19, 3) := by decide +kernel
theorem dL_calls_14 : decode cL_calls 14 = .ok (.iand, 1) := by decide +kernel
theorem dL_calls_15 : decode cL_calls 15 = .ok (.sipush 255, 3) := by decide +kernel
theorem dL_calls_18 : decode cL_calls 18 = .ok (.iand, 1) := by decide +kernel
theorem dL_calls_19 : decode cL_calls 19 = .ok (.ifCond .le 7, 3) := by decide +kernel
theorem dL_calls_22 : decode cL_calls 22 = .ok (.iconst 1, 1) := by decide +kernel
theorem dL_calls_23 : decode cL_calls 23 = .ok (.goto 4, 3) := by decide +kernel
theorem dL_calls_26 : decode cL_calls 26 = .ok (.iconst 0, 1) := by decide +kernel
theorem dL_calls_27 : decode cL_calls 27 = .ok (.istore 4, 2) := by decide +kernel
theorem dL_calls_29 : decode cL_calls 29 = .ok (.iconst 0, 1) := by decide +kernel
theorem dL_calls_30 : decode cL_calls 30 = .ok (.istore 5, 2) := by decide +kernel
theorem dL_calls_32 : decode cL_calls 32 = .ok (.iload 5, 2) := by decide +kernel
theorem dL_calls_34 : decode cL_calls 34 = .ok (.bipush 36, 2) := by decide +kernel
theorem dL_calls_36 : decode cL_calls 36 = .ok (.if_icmp .ge 79, 3) := by decide +kernel
theorem dL_calls_39 : decode cL_calls 39 = .ok (.aload_n 2, 1) := by decide +kernel
theorem dL_calls_40 : decode cL_calls 40 = .ok (.bipush 6, 2) := by decide +kernel
theorem dL_calls_42 : decode cL_calls 42 = .ok (.iload_n 3, 1) := by decide +kernel
theorem dL_calls_43 : decode cL_calls 43 = .ok (.imul, 1) := by decide +kernel
theorem dL_calls_44 : decode cL_calls 44 = .ok (.iload 5, 2) := by decide +kernel
theorem dL_calls_46 : decode cL_calls 46 = .ok (.bipush 6, 2) := by decide +kernel
theorem dL_calls_48 : decode cL_calls 48 = .ok (.idiv, 1) := by decide +kernel
theorem dL_calls_49 : decode cL_calls 49 = .ok (.iadd, 1) := by decide +kernel
theorem dL_calls_50 : decode cL_calls 50 = .ok (.iaload, 1) := by decide +kernel
theorem dL_calls_51 : decode cL_calls 51 = .ok (.iconst 1, 1) := by decide +kernel
theorem dL_calls_52 : decode cL_calls 52 = .ok (.isub, 1) := by decide +kernel
theorem dL_calls_53 : decode cL_calls 53 = .ok (.istore 6, 2) := by decide +kernel
theorem dL_calls_55 : decode cL_calls 55 = .ok (.aload_n 2, 1) := by decide +kernel
theorem dL_calls_56 : decode cL_calls 56 = .ok (.bipush 6, 2) := by decide +kernel
theorem dL_calls_58 : decode cL_calls 58 = .ok (.iload_n 3, 1) := by decide +kernel
theorem dL_calls_59 : decode cL_calls 59 = .ok (.imul, 1) := by decide +kernel
theorem dL_calls_60 : decode cL_calls 60 = .ok (.bipush 6, 2) := by decide +kernel
theorem dL_calls_62 : decode cL_calls 62 = .ok (.isub, 1) := by decide +kernel
theorem dL_calls_63 : decode cL_calls 63 = .ok (.iload 5, 2) := by decide +kernel
theorem dL_calls_65 : decode cL_calls 65 = .ok (.bipush 6, 2) := by decide +kernel
theorem dL_calls_67 : decode cL_calls 67 = .ok (.irem, 1) := by decide +kernel
theorem dL_calls_68 : decode cL_calls 68 = .ok (.iadd, 1) := by decide +kernel
theorem dL_calls_69 : decode cL_calls 69 = .ok (.iaload, 1) := by decide +kernel
theorem dL_calls_70 : decode cL_calls 70 = .ok (.iconst 1, 1) := by decide +kernel
theorem dL_calls_71 : decode cL_calls 71 = .ok (.isub, 1) := by decide +kernel
theorem dL_calls_72 : decode cL_calls 72 = .ok (.istore 7, 2) := by decide +kernel
theorem dL_calls_74 : decode cL_calls 74 = .ok (.iload 4, 2) := by decide +kernel
theorem dL_calls_76 : decode cL_calls 76 = .ok (.ifCond .ne 26, 3) := by decide +kernel
theorem dL_calls_79 : decode cL_calls 79 = .ok (.iload 6, 2) := by decide +kernel
theorem dL_calls_81 : decode cL_calls 81 = .ok (.ifCond .lt 25, 3) := by decide +kernel
theorem dL_calls_84 : decode cL_calls 84 = .ok (.iload 7, 2) := by decide +kernel
theorem dL_calls_86 : decode cL_calls 86 = .ok (.ifCond .lt 20, 3) := by decide +kernel
theorem dL_calls_89 : decode cL_calls 89 = .ok (.aload_n 1, 1) := by decide +kernel
theorem dL_calls_90 : decode cL_calls 90 = .ok (.iload 6, 2) := by decide +kernel
theorem dL_calls_92 : decode cL_calls 92 = .ok (.iaload, 1) := by decide +kernel
theorem dL_calls_93 : decode cL_calls 93 = .ok (.iload 7, 2) := by decide +kernel
theorem dL_calls_95 : decode cL_calls 95 = .ok (.ishr, 1) := by decide +kernel
theorem dL_calls_96 : decode cL_calls 96 = .ok (.iconst 1, 1) := by decide +kernel
theorem dL_calls_97 : decode cL_calls 97 = .ok (.iand, 1) := by decide +kernel
theorem dL_calls_98 : decode cL_calls 98 = .ok (.iconst 1, 1) := by decide +kernel
theorem dL_calls_99 : decode cL_calls 99 = .ok (.if_icmp .ne 7, 3) := by decide +kernel
theorem dL_calls_102 : decode cL_calls 102 = .ok (.iconst 1, 1) := by decide +kernel
theorem dL_calls_103 : decode cL_calls 103 = .ok (.goto 4, 3) := by decide +kernel
theorem dL_calls_106 : decode cL_calls 106 = .ok (.iconst 0, 1) := by decide +kernel
theorem dL_calls_107 : decode cL_calls 107 = .ok (.istore 4, 2) := by decide +kernel
theorem dL_calls_109 : decode cL_calls 109 = .ok (.iinc 5 1, 3) := by decide +kernel
theorem dL_calls_112 : decode cL_calls 112 = .ok (.goto (-80), 3) := by decide +kernel
theorem dL_calls_115 : decode cL_calls 115 = .ok (.iload 4, 2) := by decide +kernel
theorem dL_calls_117 : decode cL_calls 117 = .ok (.ireturn, 1) := by decide +kernel
theorem dL_lengthy_0 : decode cL_lengthy 0 = .ok (.iload_n 2, 1) := by decide +kernel
theorem dL_lengthy_1 : decode cL_lengthy 1 = .ok (.ifCond .ne 7, 3) := by decide +kernel
theorem dL_lengthy_4 : decode cL_lengthy 4 = .ok (.iconst (-1), 1) := by decide +kernel
theorem dL_lengthy_5 : decode cL_lengthy 5 = .ok (.goto 11, 3) := by decide +kernel
theorem dL_lengthy_8 : decode cL_lengthy 8 = .ok (.aload_n 0, 1) := by decide +kernel
theorem dL_lengthy_9 : decode cL_lengthy 9 = .ok (.aload_n 1, 1) := by decide +kernel
theorem dL_lengthy_10 : decode cL_lengthy 10 = .ok (.iload_n 2, 1) := by decide +kernel
theorem dL_lengthy_11 : decode cL_lengthy 11 = .ok (.iconst 1, 1) := by decide +kernel
theorem dL_lengthy_12 : decode cL_lengthy 12 = .ok (.isub, 1) := by decide +kernel
theorem dL_lengthy_13 : decode cL_lengthy 13 = .ok (.invokestatic 9, 3) := by decide +kernel
theorem dL_lengthy_16 : decode cL_lengthy 16 = .ok (.istore_n 3, 1) := by decide +kernel
theorem dL_lengthy_17 : decode cL_lengthy 17 = .ok (.aload_n 0, 1) := by decide +kernel
theorem dL_lengthy_18 : decode cL_lengthy 18 = .ok (.aload_n 1, 1) := by decide +kernel
theorem dL_lengthy_19 : decode cL_lengthy 19 = .ok (.iload_n 2, 1) := by decide +kernel
theorem dL_lengthy_20 : decode cL_lengthy 20 = .ok (.invokestatic 9, 3) := by decide +kernel
theorem dL_lengthy_23 : decode cL_lengthy 23 = .ok (.istore 4, 2) := by decide +kernel
theorem dL_lengthy_25 : decode cL_lengthy 25 = .ok (.iload_n 3, 1) := by decide +kernel
theorem dL_lengthy_26 : decode cL_lengthy 26 = .ok (.ifCond .ge 7, 3) := by decide +kernel
theorem dL_lengthy_29 : decode cL_lengthy 29 = .ok (.iconst 0, 1) := by decide +kernel
theorem dL_lengthy_30 : decode cL_lengthy 30 = .ok (.goto 11, 3) := by decide +kernel
theorem dL_lengthy_33 : decode cL_lengthy 33 = .ok (.aload_n 0, 1) := by decide +kernel
theorem dL_lengthy_34 : decode cL_lengthy 34 = .ok (.aload_n 1, 1) := by decide +kernel
theorem dL_lengthy_35 : decode cL_lengthy 35 = .ok (.iload_n 2, 1) := by decide +kernel
theorem dL_lengthy_36 : decode cL_lengthy 36 = .ok (.iconst 1, 1) := by decide +kernel
theorem dL_lengthy_37 : decode cL_lengthy 37 = .ok (.isub, 1) := by decide +kernel
theorem dL_lengthy_38 : decode cL_lengthy 38 = .ok (.invokestatic 22, 3) := by decide +kernel
theorem dL_lengthy_41 : decode cL_lengthy 41 = .ok (.istore 5, 2) := by decide +kernel
theorem dL_lengthy_43 : decode cL_lengthy 43 = .ok (.iload_n 3, 1) := by decide +kernel
theorem dL_lengthy_44 : decode cL_lengthy 44 = .ok (.ifCond .lt 23, 3) := by decide +kernel
theorem dL_lengthy_47 : decode cL_lengthy 47 = .ok (.iload_n 3, 1) := by decide +kernel
theorem dL_lengthy_48 : decode cL_lengthy 48 = .ok (.iconst 2, 1) := by decide +kernel
theorem dL_lengthy_49 : decode cL_lengthy 49 = .ok (.irem, 1) := by decide +kernel
theorem dL_lengthy_50 : decode cL_lengthy 50 = .ok (.ifCond .ne 17, 3) := by decide +kernel
theorem dL_lengthy_53 : decode cL_lengthy 53 = .ok (.iload 5, 2) := by decide +kernel
theorem dL_lengthy_55 : decode cL_lengthy 55 = .ok (.iconst 3, 1) := by decide +kernel
theorem dL_lengthy_56 : decode cL_lengthy 56 = .ok (.if_icmp .ge 11, 3) := by decide +kernel
theorem dL_lengthy_59 : decode cL_lengthy 59 = .ok (.iload 4, 2) := by decide +kernel
theorem dL_lengthy_61 : decode cL_lengthy 61 = .ok (.iload_n 3, 1) := by decide +kernel
theorem dL_lengthy_62 : decode cL_lengthy 62 = .ok (.if_icmp .eq 5, 3) := by decide +kernel
theorem dL_lengthy_65 : decode cL_lengthy 65 = .ok (.iload_n 3, 1) := by decide +kernel
theorem dL_lengthy_66 : decode cL_lengthy 66 = .ok (.ireturn, 1) := by decide +kernel
theorem dL_lengthy_67 : decode cL_lengthy 67 = .ok (.iload 4, 2) := by decide +kernel
theorem dL_lengthy_69 : decode cL_lengthy 69 = .ok (.ifCond .lt 25, 3) := by decide +kernel
theorem dL_lengthy_72 : decode cL_lengthy 72 = .ok (.iload 4, 2) := by decide +kernel
theorem dL_lengthy_74 : decode cL_lengthy 74 = .ok (.iload_n 3, 1) := by decide +kernel
theorem dL_lengthy_75 : decode cL_lengthy 75 = .ok (.if_icmp .ne 19, 3) := by decide +kernel
theorem dL_lengthy_78 : decode cL_lengthy 78 = .ok (.iload 5, 2) := by decide +kernel
theorem dL_lengthy_80 : decode cL_lengthy 80 = .ok (.iconst 5, 1) := by decide +kernel
theorem dL_lengthy_81 : decode cL_lengthy 81 = .ok (.iconst 2, 1) := by decide +kernel
theorem dL_lengthy_82 : decode cL_lengthy 82 = .ok (.iload 4, 2) := by decide +kernel
theorem dL_lengthy_84 : decode cL_lengthy 84 = .ok (.iconst 2, 1) := by decide +kernel
theorem dL_lengthy_85 : decode cL_lengthy 85 = .ok (.irem, 1) := by decide +kernel
theorem dL_lengthy_86 : decode cL_lengthy 86 = .ok (.imul, 1) := by decide +kernel
theorem dL_lengthy_87 : decode cL_lengthy 87 = .ok (.isub, 1) := by decide +kernel
theorem dL_lengthy_88 : decode cL_lengthy 88 = .ok (.if_icmp .lt 6, 3) := by decide +kernel
theorem dL_lengthy_91 : decode cL_lengthy 91 = .ok (.iload 4, 2) := by decide +kernel
theorem dL_lengthy_93 : decode cL_lengthy 93 = .ok (.ireturn, 1) := by decide +kernel
theorem dL_lengthy_94 : decode cL_lengthy 94 = .ok (.iconst 1, 1) := by decide +kernel
theorem dL_lengthy_95 : decode cL_lengthy 95 = .ok (.istore 6, 2) := by decide +kernel
theorem dL_lengthy_97 : decode cL_lengthy 97 = .ok (.iload 6, 2) := by decide +kernel
theorem dL_lengthy_99 : decode cL_lengthy 99 = .ok (.iconst 4, 1) := by decide +kernel
theorem dL_lengthy_100 : decode cL_lengthy 100 = .ok (.if_icmp .gt 43, 3) := by decide +kernel
theorem dL_lengthy_103 : decode cL_lengthy 103 = .ok (.iload 6, 2) := by decide +kernel
theorem dL_lengthy_105 : decode cL_lengthy 105 = .ok (.iload_n 2, 1) := by decide +kernel
theorem dL_lengthy_106 : decode cL_lengthy 106 = .ok (.if_icmp .gt 37, 3) := by decide +kernel
theorem dL_lengthy_109 : decode cL_lengthy 109 = .ok (.iload 4, 2) := by decide +kernel
theorem dL_lengthy_111 : decode cL_lengthy 111 = .ok (.ifCond .lt 26, 3) := by decide +kernel
theorem dL_lengthy_114 : decode cL_lengthy 114 = .ok (.iload 4, 2) := by decide +kernel
theorem dL_lengthy_116 : decode cL_lengthy 116 = .ok (.iload_n 3, 1) := by decide +kernel
theorem dL_lengthy_117 : decode cL_lengthy 117 = .ok (.if_icmp .eq 20, 3) := by decide +kernel
theorem dL_lengthy_120 : decode cL_lengthy 120 = .ok (.aload_n 0, 1) := by decide +kernel
theorem dL_lengthy_121 : decode cL_lengthy 121 = .ok (.aload_n 1, 1) := by decide +kernel
theorem dL_lengthy_122 : decode cL_lengthy 122 = .ok (.iload_n 2, 1) := by decide +kernel
theorem dL_lengthy_123 : decode cL_lengthy 123 = .ok (.iload 6, 2) := by decide +kernel
theorem dL_lengthy_125 : decode cL_lengthy 125 = .ok (.isub, 1) := by decide +kernel
theorem dL_lengthy_126 : decode cL_lengthy 126 = .ok (.invokestatic 9, 3) := by decide +kernel
theorem dL_lengthy_129 : decode cL_lengthy 129 = .ok (.iload 4, 2) := by decide +kernel
theorem dL_lengthy_131 : decode cL_lengthy 131 = .ok (.if_icmp .ne 6, 3) := by decide +kernel
theorem dL_lengthy_134 : decode cL_lengthy 134 = .ok (.iload 4, 2) := by decide +kernel
theorem dL_lengthy_136 : decode cL_lengthy 136 = .ok (.ireturn, 1) := by decide +kernel
theorem dL_lengthy_137 : decode cL_lengthy 137 = .ok (.iinc 6 1, 3) := by decide +kernel
theorem dL_lengthy_140 : decode cL_lengthy 140 = .ok (.goto (-43), 3) := by decide +kernel
theorem dL_lengthy_143 : decode cL_lengthy 143 = .ok (.iconst (-1), 1) := by decide +kernel
theorem dL_lengthy_144 : decode cL_lengthy 144 = .ok (.ireturn, 1) := by decide +kernel
theorem dL_seat_0 : decode cL_seat 0 = .ok (.aload_n 0, 1) := by decide +kernel
theorem dL_seat_1 : decode cL_seat 1 = .ok (.aload_n 1, 1) := by decide +kernel
theorem dL_seat_2 : decode cL_seat 2 = .ok (.iload_n 3, 1) := by decide +kernel
theorem dL_seat_3 : decode cL_seat 3 = .ok (.invokestatic 19, 3) := by decide +kernel
theorem dL_seat_6 : decode cL_seat 6 = .ok (.istore 4, 2) := by decide +kernel
theorem dL_seat_8 : decode cL_seat 8 = .ok (.iload 4, 2) := by decide +kernel
theorem dL_seat_10 : decode cL_seat 10 = .ok (.bipush 8, 2) := by decide +kernel
theorem dL_seat_12 : decode cL_seat 12 = .ok (.ishr, 1) := by decide +kernel
theorem dL_seat_13 : decode cL_seat 13 = .ok (.iconst 1, 1) := by decide +kernel
theorem dL_seat_14 : decode cL_seat 14 = .ok (.iand, 1) := by decide +kernel
theorem dL_seat_15 : decode cL_seat 15 = .ok (.iconst 1, 1) := by decide +kernel
theorem dL_seat_16 : decode cL_seat 16 = .ok (.if_icmp .ne 22, 3) := by decide +kernel
theorem dL_seat_19 : decode cL_seat 19 = .ok (.aload_n 2, 1) := by decide +kernel
theorem dL_seat_20 : decode cL_seat 20 = .ok (.iconst 4, 1) := by decide +kernel
theorem dL_seat_21 : decode cL_seat 21 = .ok (.iload_n 3, 1) := by decide +kernel
theorem dL_seat_22 : decode cL_seat 22 = .ok (.imul, 1) := by decide +kernel
theorem dL_seat_23 : decode cL_seat 23 = .ok (.iconst 1, 1) := by decide +kernel
theorem dL_seat_24 : decode cL_seat 24 = .ok (.iadd, 1) := by decide +kernel
theorem dL_seat_25 : decode cL_seat 25 = .ok (.iaload, 1) := by decide +kernel
theorem dL_seat_26 : decode cL_seat 26 = .ok (.iconst 1, 1) := by decide +kernel
theorem dL_seat_27 : decode cL_seat 27 = .ok (.if_icmp .eq 7, 3) := by decide +kernel
theorem dL_seat_30 : decode cL_seat 30 = .ok (.iconst 1, 1) := by decide +kernel
theorem dL_seat_31 : decode cL_seat 31 = .ok (.goto 23, 3) := by decide +kernel
theorem dL_seat_34 : decode cL_seat 34 = .ok (.iconst 0, 1) := by decide +kernel
theorem dL_seat_35 : decode cL_seat 35 = .ok (.goto 19, 3) := by decide +kernel
theorem dL_seat_38 : decode cL_seat 38 = .ok (.aload_n 2, 1) := by decide +kernel
theorem dL_seat_39 : decode cL_seat 39 = .ok (.iconst 4, 1) := by decide +kernel
theorem dL_seat_40 : decode cL_seat 40 = .ok (.iload_n 3, 1) := by decide +kernel
theorem dL_seat_41 : decode cL_seat 41 = .ok (.imul, 1) := by decide +kernel
theorem dL_seat_42 : decode cL_seat 42 = .ok (.iconst 1, 1) := by decide +kernel
theorem dL_seat_43 : decode cL_seat 43 = .ok (.iadd, 1) := by decide +kernel
theorem dL_seat_44 : decode cL_seat 44 = .ok (.iaload, 1) := by decide +kernel
theorem dL_seat_45 : decode cL_seat 45 = .ok (.iconst 1, 1) := by decide +kernel
theorem dL_seat_46 : decode cL_seat 46 = .ok (.if_icmp .ne 7, 3) := by decide +kernel
theorem dL_seat_49 : decode cL_seat 49 = .ok (.iconst 1, 1) := by decide +kernel
theorem dL_seat_50 : decode cL_seat 50 = .ok (.goto 4, 3) := by decide +kernel
theorem dL_seat_53 : decode cL_seat 53 = .ok (.iconst 0, 1) := by decide +kernel
theorem dL_seat_54 : decode cL_seat 54 = .ok (.istore 5, 2) := by decide +kernel
theorem dL_seat_56 : decode cL_seat 56 = .ok (.iload 4, 2) := by decide +kernel
theorem dL_seat_58 : decode cL_seat 58 = .ok (.bipush 9, 2) := by decide +kernel
theorem dL_seat_60 : decode cL_seat 60 = .ok (.ishr, 1) := by decide +kernel
theorem dL_seat_61 : decode cL_seat 61 = .ok (.iconst 1, 1) := by decide +kernel
theorem dL_seat_62 : decode cL_seat 62 = .ok (.iand, 1) := by decide +kernel
theorem dL_seat_63 : decode cL_seat 63 = .ok (.iconst 1, 1) := by decide +kernel
theorem dL_seat_64 : decode cL_seat 64 = .ok (.if_icmp .ne 22, 3) := by decide +kernel
theorem dL_seat_67 : decode cL_seat 67 = .ok (.aload_n 2, 1) := by decide +kernel
theorem dL_seat_68 : decode cL_seat 68 = .ok (.iconst 4, 1) := by decide +kernel
theorem dL_seat_69 : decode cL_seat 69 = .ok (.iload_n 3, 1) := by decide +kernel
theorem dL_seat_70 : decode cL_seat 70 = .ok (.imul, 1) := by decide +kernel
theorem dL_seat_71 : decode cL_seat 71 = .ok (.iconst 1, 1) := by decide +kernel
theorem dL_seat_72 : decode cL_seat 72 = .ok (.iadd, 1) := by decide +kernel
theorem dL_seat_73 : decode cL_seat 73 = .ok (.iaload, 1) := by decide +kernel
theorem dL_seat_74 : decode cL_seat 74 = .ok (.iconst 2, 1) := by decide +kernel
theorem dL_seat_75 : decode cL_seat 75 = .ok (.if_icmp .eq 7, 3) := by decide +kernel
theorem dL_seat_78 : decode cL_seat 78 = .ok (.iconst 1, 1) := by decide +kernel
theorem dL_seat_79 : decode cL_seat 79 = .ok (.goto 23, 3) := by decide +kernel
theorem dL_seat_82 : decode cL_seat 82 = .ok (.iconst 0, 1) := by decide +kernel
theorem dL_seat_83 : decode cL_seat 83 = .ok (.goto 19, 3) := by decide +kernel
theorem dL_seat_86 : decode cL_seat 86 = .ok (.aload_n 2, 1) := by decide +kernel
theorem dL_seat_87 : decode cL_seat 87 = .ok (.iconst 4, 1) := by decide +kernel
theorem dL_seat_88 : decode cL_seat 88 = .ok (.iload_n 3, 1) := by decide +kernel
theorem dL_seat_89 : decode cL_seat 89 = .ok (.imul, 1) := by decide +kernel
theorem dL_seat_90 : decode cL_seat 90 = .ok (.iconst 1, 1) := by decide +kernel
theorem dL_seat_91 : decode cL_seat 91 = .ok (.iadd, 1) := by decide +kernel
theorem dL_seat_92 : decode cL_seat 92 = .ok (.iaload, 1) := by decide +kernel
theorem dL_seat_93 : decode cL_seat 93 = .ok (.iconst 2, 1) := by decide +kernel
theorem dL_seat_94 : decode cL_seat 94 = .ok (.if_icmp .ne 7, 3) := by decide +kernel
theorem dL_seat_97 : decode cL_seat 97 = .ok (.iconst 1, 1) := by decide +kernel
theorem dL_seat_98 : decode cL_seat 98 = .ok (.goto 4, 3) := by decide +kernel
theorem dL_seat_101 : decode cL_seat 101 = .ok (.iconst 0, 1) := by decide +kernel
theorem dL_seat_102 : decode cL_seat 102 = .ok (.istore 6, 2) := by decide +kernel
theorem dL_seat_104 : decode cL_seat 104 = .ok (.iload 5, 2) := by decide +kernel
theorem dL_seat_106 : decode cL_seat 106 = .ok (.ifCond .eq 7, 3) := by decide +kernel
theorem dL_seat_109 : decode cL_seat 109 = .ok (.iconst 1, 1) := by decide +kernel
theorem dL_seat_110 : decode cL_seat 110 = .ok (.goto 13, 3) := by decide +kernel
theorem dL_seat_113 : decode cL_seat 113 = .ok (.iload 6, 2) := by decide +kernel
theorem dL_seat_115 : decode cL_seat 115 = .ok (.ifCond .eq 7, 3) := by decide +kernel
theorem dL_seat_118 : decode cL_seat 118 = .ok (.iconst 2, 1) := by decide +kernel
theorem dL_seat_119 : decode cL_seat 119 = .ok (.goto 4, 3) := by decide +kernel
theorem dL_seat_122 : decode cL_seat 122 = .ok (.iconst (-1), 1) := by decide +kernel
theorem dL_seat_123 : decode cL_seat 123 = .ok (.ireturn, 1) := by decide +kernel
theorem dL_fault_0 : decode cL_fault 0 = .ok (.iconst 0, 1) := by decide +kernel
theorem dL_fault_1 : decode cL_fault 1 = .ok (.istore 7, 2) := by decide +kernel
theorem dL_fault_3 : decode cL_fault 3 = .ok (.iconst 0, 1) := by decide +kernel
theorem dL_fault_4 : decode cL_fault 4 = .ok (.istore 8, 2) := by decide +kernel
theorem dL_fault_6 : decode cL_fault 6 = .ok (.iload 8, 2) := by decide +kernel
theorem dL_fault_8 : decode cL_fault 8 = .ok (.bipush 6, 2) := by decide +kernel
theorem dL_fault_10 : decode cL_fault 10 = .ok (.if_icmp .ge 48, 3) := by decide +kernel
theorem dL_fault_13 : decode cL_fault 13 = .ok (.iload 7, 2) := by decide +kernel
theorem dL_fault_15 : decode cL_fault 15 = .ok (.aload_n 2, 1) := by decide +kernel
theorem dL_fault_16 : decode cL_fault 16 = .ok (.bipush 6, 2) := by decide +kernel
theorem dL_fault_18 : decode cL_fault 18 = .ok (.iload 5, 2) := by decide +kernel
theorem dL_fault_20 : decode cL_fault 20 = .ok (.imul, 1) := by decide +kernel
theorem dL_fault_21 : decode cL_fault 21 = .ok (.iload 8, 2) := by decide +kernel
theorem dL_fault_23 : decode cL_fault 23 = .ok (.iadd, 1) := by decide +kernel
theorem dL_fault_24 : decode cL_fault 24 = .ok (.iaload, 1) := by decide +kernel
theorem dL_fault_25 : decode cL_fault 25 = .ok (.ifCond .le 23, 3) := by decide +kernel
theorem dL_fault_28 : decode cL_fault 28 = .ok (.aload_n 0, 1) := by decide +kernel
theorem dL_fault_29 : decode cL_fault 29 = .ok (.aload_n 2, 1) := by decide +kernel
theorem dL_fault_30 : decode cL_fault 30 = .ok (.bipush 6, 2) := by decide +kernel
theorem dL_fault_32 : decode cL_fault 32 = .ok (.iload 5, 2) := by decide +kernel
theorem dL_fault_34 : decode cL_fault 34 = .ok (.imul, 1) := by decide +kernel
theorem dL_fault_35 : decode cL_fault 35 = .ok (.iload 8, 2) := by decide +kernel
theorem dL_fault_37 : decode cL_fault 37 = .ok (.iadd, 1) := by decide +kernel
theorem dL_fault_38 : decode cL_fault 38 = .ok (.iaload, 1) := by decide +kernel
theorem dL_fault_39 : decode cL_fault 39 = .ok (.iconst 1, 1) := by decide +kernel
theorem dL_fault_40 : decode cL_fault 40 = .ok (.isub, 1) := by decide +kernel
theorem dL_fault_41 : decode cL_fault 41 = .ok (.iaload, 1) := by decide +kernel
theorem dL_fault_42 : decode cL_fault 42 = .ok (.bipush 15, 2) := by decide +kernel
theorem dL_fault_44 : decode cL_fault 44 = .ok (.iand, 1) := by decide +kernel
theorem dL_fault_45 : decode cL_fault 45 = .ok (.goto 4, 3) := by decide +kernel
theorem dL_fault_48 : decode cL_fault 48 = .ok (.iconst 0, 1) := by decide +kernel
theorem dL_fault_49 : decode cL_fault 49 = .ok (.iadd, 1) := by decide +kernel
theorem dL_fault_50 : decode cL_fault 50 = .ok (.istore 7, 2) := by decide +kernel
theorem dL_fault_52 : decode cL_fault 52 = .ok (.iinc 8 1, 3) := by decide +kernel
theorem dL_fault_55 : decode cL_fault 55 = .ok (.goto (-49), 3) := by decide +kernel
theorem dL_fault_58 : decode cL_fault 58 = .ok (.iload 5, 2) := by decide +kernel
theorem dL_fault_60 : decode cL_fault 60 = .ok (.iconst 1, 1) := by decide +kernel
theorem dL_fault_61 : decode cL_fault 61 = .ok (.if_icmp .le 27, 3) := by decide +kernel
theorem dL_fault_64 : decode cL_fault 64 = .ok (.aload_n 0, 1) := by decide +kernel
theorem dL_fault_65 : decode cL_fault 65 = .ok (.aload_n 2, 1) := by decide +kernel
theorem dL_fault_66 : decode cL_fault 66 = .ok (.iload 5, 2) := by decide +kernel
theorem dL_fault_68 : decode cL_fault 68 = .ok (.invokestatic 19, 3) := by decide +kernel
theorem dL_fault_71 : decode cL_fault 71 = .ok (.aload_n 0, 1) := by decide +kernel
theorem dL_fault_72 : decode cL_fault 72 = .ok (.aload_n 2, 1) := by decide +kernel
theorem dL_fault_73 : decode cL_fault 73 = .ok (.iload 5, 2) := by decide +kernel
theorem dL_fault_75 : decode cL_fault 75 = .ok (.iconst 2, 1) := by decide +kernel
theorem dL_fault_76 : decode cL_fault 76 = .ok (.isub, 1) := by decide +kernel
theorem dL_fault_77 : decode cL_fault 77 = .ok (.invokestatic 19, 3) := by decide +kernel
theorem dL_fault_80 : decode cL_fault 80 = .ok (.iand, 1) := by decide +kernel
theorem dL_fault_81 : decode cL_fault 81 = .ok (.sipush 255, 3) := by decide +kernel
theorem dL_fault_84 : decode cL_fault 84 = .ok (.iand, 1) := by decide +kernel
theorem dL_fault_85 : decode cL_fault 85 = .ok (.goto 4, 3) := by decide +kernel
theorem dL_fault_88 : decode cL_fault 88 = .ok (.iconst 0, 1) := by decide +kernel
theorem dL_fault_89 : decode cL_fault 89 = .ok (.istore 8, 2) := by decide +kernel
theorem dL_fault_91 : decode cL_fault 91 = .ok (.iconst 0, 1) := by decide +kernel
theorem dL_fault_92 : decode cL_fault 92 = .ok (.istore 9, 2) := by decide +kernel
theorem dL_fault_94 : decode cL_fault 94 = .ok (.bipush 7, 2) := by decide +kernel
theorem dL_fault_96 : decode cL_fault 96 = .ok (.istore 10, 2) := by decide +kernel
theorem dL_fault_98 : decode cL_fault 98 = .ok (.iload 10, 2) := by decide +kernel
theorem dL_fault_100 : decode cL_fault 100 = .ok (.ifCond .lt 29, 3) := by decide +kernel
theorem dL_fault_103 : decode cL_fault 103 = .ok (.iload 8, 2) := by decide +kernel
theorem dL_fault_105 : decode cL_fault 105 = .ok (.iload 10, 2) := by decide +kernel
theorem dL_fault_107 : decode cL_fault 107 = .ok (.ishr, 1) := by decide +kernel
theorem dL_fault_108 : decode cL_fault 108 = .ok (.iconst 1, 1) := by decide +kernel
theorem dL_fault_109 : decode cL_fault 109 = .ok (.iand, 1) := by decide +kernel
theorem dL_fault_110 : decode cL_fault 110 = .ok (.iconst 1, 1) := by decide +kernel
theorem dL_fault_111 : decode cL_fault 111 = .ok (.if_icmp .ne 8, 3) := by decide +kernel
theorem dL_fault_114 : decode cL_fault 114 = .ok (.iload 10, 2) := by decide +kernel
theorem dL_fault_116 : decode cL_fault 116 = .ok (.goto 5, 3) := by decide +kernel
theorem dL_fault_119 : decode cL_fault 119 = .ok (.iload 9, 2) := by decide +kernel
theorem dL_fault_121 : decode cL_fault 121 = .ok (.istore 9, 2) := by decide +kernel
theorem dL_fault_123 : decode cL_fault 123 = .ok (.iinc 10 (-1), 3) := by decide +kernel
theorem dL_fault_126 : decode cL_fault 126 = .ok (.goto (-28), 3) := by decide +kernel
theorem dL_fault_129 : decode cL_fault 129 = .ok (.iload 7, 2) := by decide +kernel
theorem dL_fault_131 : decode cL_fault 131 = .ok (.aload 4, 2) := by decide +kernel
theorem dL_fault_133 : decode cL_fault 133 = .ok (.iconst 1, 1) := by decide +kernel
theorem dL_fault_134 : decode cL_fault 134 = .ok (.iload 5, 2) := by decide +kernel
theorem dL_fault_136 : decode cL_fault 136 = .ok (.iconst 2, 1) := by decide +kernel
theorem dL_fault_137 : decode cL_fault 137 = .ok (.irem, 1) := by decide +kernel
theorem dL_fault_138 : decode cL_fault 138 = .ok (.iadd, 1) := by decide +kernel
theorem dL_fault_139 : decode cL_fault 139 = .ok (.iaload, 1) := by decide +kernel
theorem dL_fault_140 : decode cL_fault 140 = .ok (.if_icmp .eq 9, 3) := by decide +kernel
theorem dL_fault_143 : decode cL_fault 143 = .ok (.bipush 100, 2) := by decide +kernel
theorem dL_fault_145 : decode cL_fault 145 = .ok (.iload 7, 2) := by decide +kernel
theorem dL_fault_147 : decode cL_fault 147 = .ok (.iadd, 1) := by decide +kernel
theorem dL_fault_148 : decode cL_fault 148 = .ok (.ireturn, 1) := by decide +kernel
theorem dL_fault_149 : decode cL_fault 149 = .ok (.aload_n 0, 1) := by decide +kernel
theorem dL_fault_150 : decode cL_fault 150 = .ok (.aload_n 2, 1) := by decide +kernel
theorem dL_fault_151 : decode cL_fault 151 = .ok (.iload 5, 2) := by decide +kernel
theorem dL_fault_153 : decode cL_fault 153 = .ok (.invokestatic 25, 3) := by decide +kernel
theorem dL_fault_156 : decode cL_fault 156 = .ok (.ifCond .lt 15, 3) := by decide +kernel
theorem dL_fault_159 : decode cL_fault 159 = .ok (.sipush 200, 3) := by decide +kernel
theorem dL_fault_162 : decode cL_fault 162 = .ok (.aload_n 0, 1) := by decide +kernel
theorem dL_fault_163 : decode cL_fault 163 = .ok (.aload_n 2, 1) := by decide +kernel
theorem dL_fault_164 : decode cL_fault 164 = .ok (.iload 5, 2) := by decide +kernel
theorem dL_fault_166 : decode cL_fault 166 = .ok (.invokestatic 25, 3) := by decide +kernel
theorem dL_fault_169 : decode cL_fault 169 = .ok (.iadd, 1) := by decide +kernel
theorem dL_fault_170 : decode cL_fault 170 = .ok (.ireturn, 1) := by decide +kernel
theorem dL_fault_171 : decode cL_fault 171 = .ok (.aload_n 2, 1) := by decide +kernel
theorem dL_fault_172 : decode cL_fault 172 = .ok (.aload 4, 2) := by decide +kernel
theorem dL_fault_174 : decode cL_fault 174 = .ok (.iload 5, 2) := by decide +kernel
theorem dL_fault_176 : decode cL_fault 176 = .ok (.invokestatic 28, 3) := by decide +kernel
theorem dL_fault_179 : decode cL_fault 179 = .ok (.ifCond .lt 16, 3) := by decide +kernel
theorem dL_fault_182 : decode cL_fault 182 = .ok (.sipush 300, 3) := by decide +kernel
theorem dL_fault_185 : decode cL_fault 185 = .ok (.aload_n 2, 1) := by decide +kernel
theorem dL_fault_186 : decode cL_fault 186 = .ok (.aload 4, 2) := by decide +kernel
theorem dL_fault_188 : decode cL_fault 188 = .ok (.iload 5, 2) := by decide +kernel
theorem dL_fault_190 : decode cL_fault 190 = .ok (.invokestatic 28, 3) := by decide +kernel
theorem dL_fault_193 : decode cL_fault 193 = .ok (.iadd, 1) := by decide +kernel
theorem dL_fault_194 : decode cL_fault 194 = .ok (.ireturn, 1) := by decide +kernel
theorem dL_fault_195 : decode cL_fault 195 = .ok (.iload 5, 2) := by decide +kernel
theorem dL_fault_197 : decode cL_fault 197 = .ok (.ifCond .le 28, 3) := by decide +kernel
theorem dL_fault_200 : decode cL_fault 200 = .ok (.iload 6, 2) := by decide +kernel
theorem dL_fault_202 : decode cL_fault 202 = .ok (.ifCond .lt 23, 3) := by decide +kernel
theorem dL_fault_205 : decode cL_fault 205 = .ok (.aload_n 3, 1) := by decide +kernel
theorem dL_fault_206 : decode cL_fault 206 = .ok (.iconst 4, 1) := by decide +kernel
theorem dL_fault_207 : decode cL_fault 207 = .ok (.iload 5, 2) := by decide +kernel
theorem dL_fault_209 : decode cL_fault 209 = .ok (.imul, 1) := by decide +kernel
theorem dL_fault_210 : decode cL_fault 210 = .ok (.iconst 4, 1) := by decide +kernel
theorem dL_fault_211 : decode cL_fault 211 = .ok (.isub, 1) := by decide +kernel
theorem dL_fault_212 : decode cL_fault 212 = .ok (.iaload, 1) := by decide +kernel
theorem dL_fault_213 : decode cL_fault 213 = .ok (.iload 6, 2) := by decide +kernel
theorem dL_fault_215 : decode cL_fault 215 = .ok (.if_icmp .ne 10, 3) := by decide +kernel
theorem dL_fault_218 : decode cL_fault 218 = .ok (.sipush 400, 3) := by decide +kernel
theorem dL_fault_221 : decode cL_fault 221 = .ok (.iload 6, 2) := by decide +kernel
theorem dL_fault_223 : decode cL_fault 223 = .ok (.iadd, 1) := by decide +kernel
theorem dL_fault_224 : decode cL_fault 224 = .ok (.ireturn, 1) := by decide +kernel
theorem dL_fault_225 : decode cL_fault 225 = .ok (.iload 5, 2) := by decide +kernel
theorem dL_fault_227 : decode cL_fault 227 = .ok (.ifCond .le 23, 3) := by decide +kernel
theorem dL_fault_230 : decode cL_fault 230 = .ok (.aload_n 0, 1) := by decide +kernel
theorem dL_fault_231 : decode cL_fault 231 = .ok (.aload_n 1, 1) := by decide +kernel
theorem dL_fault_232 : decode cL_fault 232 = .ok (.aload_n 2, 1) := by decide +kernel
theorem dL_fault_233 : decode cL_fault 233 = .ok (.iload 5, 2) := by decide +kernel
theorem dL_fault_235 : decode cL_fault 235 = .ok (.invokestatic 31, 3) := by decide +kernel
theorem dL_fault_238 : decode cL_fault 238 = .ok (.ifCond .ne 12, 3) := by decide +kernel
theorem dL_fault_241 : decode cL_fault 241 = .ok (.sipush 500, 3) := by decide +kernel
theorem dL_fault_244 : decode cL_fault 244 = .ok (.iload 5, 2) := by decide +kernel
theorem dL_fault_246 : decode cL_fault 246 = .ok (.iadd, 1) := by decide +kernel
theorem dL_fault_247 : decode cL_fault 247 = .ok (.iconst 1, 1) := by decide +kernel
theorem dL_fault_248 : decode cL_fault 248 = .ok (.isub, 1) := by decide +kernel
theorem dL_fault_249 : decode cL_fault 249 = .ok (.ireturn, 1) := by decide +kernel
theorem dL_fault_250 : decode cL_fault 250 = .ok (.iload 8, 2) := by decide +kernel
theorem dL_fault_252 : decode cL_fault 252 = .ok (.ifCond .le 10, 3) := by decide +kernel
theorem dL_fault_255 : decode cL_fault 255 = .ok (.sipush 600, 3) := by decide +kernel
theorem dL_fault_258 : decode cL_fault 258 = .ok (.iload 9, 2) := by decide +kernel
theorem dL_fault_260 : decode cL_fault 260 = .ok (.iadd, 1) := by decide +kernel
theorem dL_fault_261 : decode cL_fault 261 = .ok (.ireturn, 1) := by decide +kernel
theorem dL_fault_262 : decode cL_fault 262 = .ok (.aload_n 0, 1) := by decide +kernel
theorem dL_fault_263 : decode cL_fault 263 = .ok (.aload_n 2, 1) := by decide +kernel
theorem dL_fault_264 : decode cL_fault 264 = .ok (.iload 5, 2) := by decide +kernel
theorem dL_fault_266 : decode cL_fault 266 = .ok (.invokestatic 35, 3) := by decide +kernel
theorem dL_fault_269 : decode cL_fault 269 = .ok (.istore 10, 2) := by decide +kernel
theorem dL_fault_271 : decode cL_fault 271 = .ok (.iload 10, 2) := by decide +kernel
theorem dL_fault_273 : decode cL_fault 273 = .ok (.ifCond .lt 12, 3) := by decide +kernel
theorem dL_fault_276 : decode cL_fault 276 = .ok (.sipush 700, 3) := by decide +kernel
theorem dL_fault_279 : decode cL_fault 279 = .ok (.iload 10, 2) := by decide +kernel
theorem dL_fault_281 : decode cL_fault 281 = .ok (.iadd, 1) := by decide +kernel
theorem dL_fault_282 : decode cL_fault 282 = .ok (.goto 30, 3) := by decide +kernel
theorem dL_fault_285 : decode cL_fault 285 = .ok (.aload_n 0, 1) := by decide +kernel
theorem dL_fault_286 : decode cL_fault 286 = .ok (.aload_n 2, 1) := by decide +kernel
theorem dL_fault_287 : decode cL_fault 287 = .ok (.aload_n 3, 1) := by decide +kernel
theorem dL_fault_288 : decode cL_fault 288 = .ok (.iload 5, 2) := by decide +kernel
theorem dL_fault_290 : decode cL_fault 290 = .ok (.invokestatic 38, 3) := by decide +kernel
theorem dL_fault_293 : decode cL_fault 293 = .ok (.ifCond .le 18, 3) := by decide +kernel
theorem dL_fault_296 : decode cL_fault 296 = .ok (.sipush 800, 3) := by decide +kernel
theorem dL_fault_299 : decode cL_fault 299 = .ok (.aload_n 0, 1) := by decide +kernel
theorem dL_fault_300 : decode cL_fault 300 = .ok (.aload_n 2, 1) := by decide +kernel
theorem dL_fault_301 : decode cL_fault 301 = .ok (.aload_n 3, 1) := by decide +kernel
theorem dL_fault_302 : decode cL_fault 302 = .ok (.iload 5, 2) := by decide +kernel
theorem dL_fault_304 : decode cL_fault 304 = .ok (.invokestatic 38, 3) := by decide +kernel
theorem dL_fault_307 : decode cL_fault 307 = .ok (.iadd, 1) := by decide +kernel
theorem dL_fault_308 : decode cL_fault 308 = .ok (.goto 4, 3) := by decide +kernel
theorem dL_fault_311 : decode cL_fault 311 = .ok (.iconst 0, 1) := by decide +kernel
theorem dL_fault_312 : decode cL_fault 312 = .ok (.ireturn, 1) := by decide +kernel
theorem dL_looked_0 : decode cL_looked 0 = .ok (.iconst 0, 1) := by decide +kernel
theorem dL_looked_1 : decode cL_looked 1 = .ok (.istore 7, 2) := by decide +kernel
theorem dL_looked_3 : decode cL_looked 3 = .ok (.iload 7, 2) := by decide +kernel
theorem dL_looked_5 : decode cL_looked 5 = .ok (.bipush 6, 2) := by decide +kernel
theorem dL_looked_7 : decode cL_looked 7 = .ok (.if_icmp .ge 26, 3) := by decide +kernel
theorem dL_looked_10 : decode cL_looked 10 = .ok (.aload_n 2, 1) := by decide +kernel
theorem dL_looked_11 : decode cL_looked 11 = .ok (.bipush 6, 2) := by decide +kernel
theorem dL_looked_13 : decode cL_looked 13 = .ok (.aload 4, 2) := by decide +kernel
theorem dL_looked_15 : decode cL_looked 15 = .ok (.iconst 3, 1) := by decide +kernel
theorem dL_looked_16 : decode cL_looked 16 = .ok (.iaload, 1) := by decide +kernel
theorem dL_looked_17 : decode cL_looked 17 = .ok (.imul, 1) := by decide +kernel
theorem dL_looked_18 : decode cL_looked 18 = .ok (.iload 7, 2) := by decide +kernel
theorem dL_looked_20 : decode cL_looked 20 = .ok (.iadd, 1) := by decide +kernel
theorem dL_looked_21 : decode cL_looked 21 = .ok (.aload 5, 2) := by decide +kernel
theorem dL_looked_23 : decode cL_looked 23 = .ok (.iload 7, 2) := by decide +kernel
theorem dL_looked_25 : decode cL_looked 25 = .ok (.iaload, 1) := by decide +kernel
theorem dL_looked_26 : decode cL_looked 26 = .ok (.iastore, 1) := by decide +kernel
theorem dL_looked_27 : decode cL_looked 27 = .ok (.iinc 7 1, 3) := by decide +kernel
theorem dL_looked_30 : decode cL_looked 30 = .ok (.goto (-27), 3) := by decide +kernel
theorem dL_looked_33 : decode cL_looked 33 = .ok (.aload_n 0, 1) := by decide +kernel
theorem dL_looked_34 : decode cL_looked 34 = .ok (.aload_n 1, 1) := by decide +kernel
theorem dL_looked_35 : decode cL_looked 35 = .ok (.aload_n 2, 1) := by decide +kernel
theorem dL_looked_36 : decode cL_looked 36 = .ok (.aload_n 3, 1) := by decide +kernel
theorem dL_looked_37 : decode cL_looked 37 = .ok (.aload 4, 2) := by decide +kernel
theorem dL_looked_39 : decode cL_looked 39 = .ok (.aload 4, 2) := by decide +kernel
theorem dL_looked_41 : decode cL_looked 41 = .ok (.iconst 3, 1) := by decide +kernel
theorem dL_looked_42 : decode cL_looked 42 = .ok (.iaload, 1) := by decide +kernel
theorem dL_looked_43 : decode cL_looked 43 = .ok (.iload 6, 2) := by decide +kernel
theorem dL_looked_45 : decode cL_looked 45 = .ok (.invokestatic 42, 3) := by decide +kernel
theorem dL_looked_48 : decode cL_looked 48 = .ok (.istore 7, 2) := by decide +kernel
theorem dL_looked_50 : decode cL_looked 50 = .ok (.iconst 0, 1) := by decide +kernel
theorem dL_looked_51 : decode cL_looked 51 = .ok (.istore 8, 2) := by decide +kernel
theorem dL_looked_53 : decode cL_looked 53 = .ok (.iload 8, 2) := by decide +kernel
theorem dL_looked_55 : decode cL_looked 55 = .ok (.bipush 6, 2) := by decide +kernel
theorem dL_looked_57 : decode cL_looked 57 = .ok (.if_icmp .ge 22, 3) := by decide +kernel
theorem dL_looked_60 : decode cL_looked 60 = .ok (.aload_n 2, 1) := by decide +kernel
theorem dL_looked_61 : decode cL_looked 61 = .ok (.bipush 6, 2) := by decide +kernel
theorem dL_looked_63 : decode cL_looked 63 = .ok (.aload 4, 2) := by decide +kernel
theorem dL_looked_65 : decode cL_looked 65 = .ok (.iconst 3, 1) := by decide +kernel
theorem dL_looked_66 : decode cL_looked 66 = .ok (.iaload, 1) := by decide +kernel
theorem dL_looked_67 : decode cL_looked 67 = .ok (.imul, 1) := by decide +kernel
theorem dL_looked_68 : decode cL_looked 68 = .ok (.iload 8, 2) := by decide +kernel
theorem dL_looked_70 : decode cL_looked 70 = .ok (.iadd, 1) := by decide +kernel
theorem dL_looked_71 : decode cL_looked 71 = .ok (.iconst 0, 1) := by decide +kernel
theorem dL_looked_72 : decode cL_looked 72 = .ok (.iastore, 1) := by decide +kernel
theorem dL_looked_73 : decode cL_looked 73 = .ok (.iinc 8 1, 3) := by decide +kernel
theorem dL_looked_76 : decode cL_looked 76 = .ok (.goto (-23), 3) := by decide +kernel
theorem dL_looked_79 : decode cL_looked 79 = .ok (.iload 7, 2) := by decide +kernel
theorem dL_looked_81 : decode cL_looked 81 = .ok (.ireturn, 1) := by decide +kernel
theorem dL_chance_0 : decode cL_chance 0 = .ok (.bipush 6, 2) := by decide +kernel
theorem dL_chance_2 : decode cL_chance 2 = .ok (.newarray .int, 2) := by decide +kernel
theorem dL_chance_4 : decode cL_chance 4 = .ok (.astore 7, 2) := by decide +kernel
theorem dL_chance_6 : decode cL_chance 6 = .ok (.iconst 0, 1) := by decide +kernel
theorem dL_chance_7 : decode cL_chance 7 = .ok (.istore 8, 2) := by decide +kernel
theorem dL_chance_9 : decode cL_chance 9 = .ok (.iconst 0, 1) := by decide +kernel
theorem dL_chance_10 : decode cL_chance 10 = .ok (.istore 9, 2) := by decide +kernel
theorem dL_chance_12 : decode cL_chance 12 = .ok (.iload 9, 2) := by decide +kernel
theorem dL_chance_14 : decode cL_chance 14 = .ok (.sipush 272, 3) := by decide +kernel
theorem dL_chance_17 : decode cL_chance 17 = .ok (.if_icmp .ge 70, 3) := by decide +kernel
theorem dL_chance_20 : decode cL_chance 20 = .ok (.aload 7, 2) := by decide +kernel
theorem dL_chance_22 : decode cL_chance 22 = .ok (.iconst 0, 1) := by decide +kernel
theorem dL_chance_23 : decode cL_chance 23 = .ok (.iload 9, 2) := by decide +kernel
theorem dL_chance_25 : decode cL_chance 25 = .ok (.bipush 17, 2) := by decide +kernel
theorem dL_chance_27 : decode cL_chance 27 = .ok (.idiv, 1) := by decide +kernel
theorem dL_chance_28 : decode cL_chance 28 = .ok (.iconst 1, 1) := by decide +kernel
theorem dL_chance_29 : decode cL_chance 29 = .ok (.iadd, 1) := by decide +kernel
theorem dL_chance_30 : decode cL_chance 30 = .ok (.iastore, 1) := by decide +kernel
theorem dL_chance_31 : decode cL_chance 31 = .ok (.aload 7, 2) := by decide +kernel
theorem dL_chance_33 : decode cL_chance 33 = .ok (.iconst 1, 1) := by decide +kernel
theorem dL_chance_34 : decode cL_chance 34 = .ok (.iload 9, 2) := by decide +kernel
theorem dL_chance_36 : decode cL_chance 36 = .ok (.bipush 17, 2) := by decide +kernel
theorem dL_chance_38 : decode cL_chance 38 = .ok (.irem, 1) := by decide +kernel
theorem dL_chance_39 : decode cL_chance 39 = .ok (.iastore, 1) := by decide +kernel
theorem dL_chance_40 : decode cL_chance 40 = .ok (.aload_n 0, 1) := by decide +kernel
theorem dL_chance_41 : decode cL_chance 41 = .ok (.aload_n 1, 1) := by decide +kernel
theorem dL_chance_42 : decode cL_chance 42 = .ok (.aload_n 2, 1) := by decide +kernel
theorem dL_chance_43 : decode cL_chance 43 = .ok (.aload_n 3, 1) := by decide +kernel
theorem dL_chance_44 : decode cL_chance 44 = .ok (.aload 4, 2) := by decide +kernel
theorem dL_chance_46 : decode cL_chance 46 = .ok (.aload 7, 2) := by decide +kernel
theorem dL_chance_48 : decode cL_chance 48 = .ok (.iload 5, 2) := by decide +kernel
theorem dL_chance_50 : decode cL_chance 50 = .ok (.invokestatic 46, 3) := by decide +kernel
theorem dL_chance_53 : decode cL_chance 53 = .ok (.ifCond .ne 28, 3) := by decide +kernel
theorem dL_chance_56 : decode cL_chance 56 = .ok (.iload 8, 2) := by decide +kernel
theorem dL_chance_58 : decode cL_chance 58 = .ok (.iload 6, 2) := by decide +kernel
theorem dL_chance_60 : decode cL_chance 60 = .ok (.if_icmp .ne 18, 3) := by decide +kernel
theorem dL_chance_63 : decode cL_chance 63 = .ok (.bipush 20, 2) := by decide +kernel
theorem dL_chance_65 : decode cL_chance 65 = .ok (.iload 9, 2) := by decide +kernel
theorem dL_chance_67 : decode cL_chance 67 = .ok (.bipush 17, 2) := by decide +kernel
theorem dL_chance_69 : decode cL_chance 69 = .ok (.idiv, 1) := by decide +kernel
theorem dL_chance_70 : decode cL_chance 70 = .ok (.imul, 1) := by decide +kernel
theorem dL_chance_71 : decode cL_chance 71 = .ok (.iload 9, 2) := by decide +kernel
theorem dL_chance_73 : decode cL_chance 73 = .ok (.bipush 17, 2) := by decide +kernel
theorem dL_chance_75 : decode cL_chance 75 = .ok (.irem, 1) := by decide +kernel
theorem dL_chance_76 : decode cL_chance 76 = .ok (.iadd, 1) := by decide +kernel
theorem dL_chance_77 : decode cL_chance 77 = .ok (.ireturn, 1) := by decide +kernel
theorem dL_chance_78 : decode cL_chance 78 = .ok (.iinc 8 1, 3) := by decide +kernel
theorem dL_chance_81 : decode cL_chance 81 = .ok (.iinc 9 1, 3) := by decide +kernel
theorem dL_chance_84 : decode cL_chance 84 = .ok (.goto (-72), 3) := by decide +kernel
theorem dL_chance_87 : decode cL_chance 87 = .ok (.iload 8, 2) := by decide +kernel
theorem dL_chance_89 : decode cL_chance 89 = .ok (.ireturn, 1) := by decide +kernel
theorem dL_far_0 : decode cL_far 0 = .ok (.iconst 0, 1) := by decide +kernel
theorem dL_far_1 : decode cL_far 1 = .ok (.istore_n 2, 1) := by decide +kernel
theorem dL_far_2 : decode cL_far 2 = .ok (.iconst 0, 1) := by decide +kernel
theorem dL_far_3 : decode cL_far 3 = .ok (.istore_n 3, 1) := by decide +kernel
theorem dL_far_4 : decode cL_far 4 = .ok (.iload_n 3, 1) := by decide +kernel
theorem dL_far_5 : decode cL_far 5 = .ok (.bipush 60, 2) := by decide +kernel
theorem dL_far_7 : decode cL_far 7 = .ok (.if_icmp .ge 26, 3) := by decide +kernel
theorem dL_far_10 : decode cL_far 10 = .ok (.iload_n 2, 1) := by decide +kernel
theorem dL_far_11 : decode cL_far 11 = .ok (.aload_n 0, 1) := by decide +kernel
theorem dL_far_12 : decode cL_far 12 = .ok (.iload_n 3, 1) := by decide +kernel
theorem dL_far_13 : decode cL_far 13 = .ok (.iaload, 1) := by decide +kernel
theorem dL_far_14 : decode cL_far 14 = .ok (.aload_n 1, 1) := by decide +kernel
theorem dL_far_15 : decode cL_far 15 = .ok (.iload_n 3, 1) := by decide +kernel
theorem dL_far_16 : decode cL_far 16 = .ok (.iaload, 1) := by decide +kernel
theorem dL_far_17 : decode cL_far 17 = .ok (.if_icmp .ne 7, 3) := by decide +kernel
theorem dL_far_20 : decode cL_far 20 = .ok (.iconst 0, 1) := by decide +kernel
theorem dL_far_21 : decode cL_far 21 = .ok (.goto 4, 3) := by decide +kernel
theorem dL_far_24 : decode cL_far 24 = .ok (.iconst 1, 1) := by decide +kernel
theorem dL_far_25 : decode cL_far 25 = .ok (.iadd, 1) := by decide +kernel
theorem dL_far_26 : decode cL_far 26 = .ok (.istore_n 2, 1) := by decide +kernel
theorem dL_far_27 : decode cL_far 27 = .ok (.iinc 3 1, 3) := by decide +kernel
theorem dL_far_30 : decode cL_far 30 = .ok (.goto (-26), 3) := by decide +kernel
theorem dL_far_33 : decode cL_far 33 = .ok (.iload_n 2, 1) := by decide +kernel
theorem dL_far_34 : decode cL_far 34 = .ok (.ireturn, 1) := by decide +kernel
theorem dL_prize_0 : decode cL_prize 0 = .ok (.iconst (-1), 1) := by decide +kernel
theorem dL_prize_1 : decode cL_prize 1 = .ok (.istore 4, 2) := by decide +kernel
theorem dL_prize_3 : decode cL_prize 3 = .ok (.iconst 0, 1) := by decide +kernel
theorem dL_prize_4 : decode cL_prize 4 = .ok (.istore 5, 2) := by decide +kernel
theorem dL_prize_6 : decode cL_prize 6 = .ok (.iconst 1, 1) := by decide +kernel
theorem dL_prize_7 : decode cL_prize 7 = .ok (.istore 6, 2) := by decide +kernel
theorem dL_prize_9 : decode cL_prize 9 = .ok (.iload_n 3, 1) := by decide +kernel
theorem dL_prize_10 : decode cL_prize 10 = .ok (.iconst 1, 1) := by decide +kernel
theorem dL_prize_11 : decode cL_prize 11 = .ok (.isub, 1) := by decide +kernel
theorem dL_prize_12 : decode cL_prize 12 = .ok (.istore 7, 2) := by decide +kernel
theorem dL_prize_14 : decode cL_prize 14 = .ok (.iload 7, 2) := by decide +kernel
theorem dL_prize_16 : decode cL_prize 16 = .ok (.ifCond .lt 170, 3) := by decide +kernel
theorem dL_prize_19 : decode cL_prize 19 = .ok (.iconst 0, 1) := by decide +kernel
theorem dL_prize_20 : decode cL_prize 20 = .ok (.istore 8, 2) := by decide +kernel
theorem dL_prize_22 : decode cL_prize 22 = .ok (.iconst 0, 1) := by decide +kernel
theorem dL_prize_23 : decode cL_prize 23 = .ok (.istore 9, 2) := by decide +kernel
theorem dL_prize_25 : decode cL_prize 25 = .ok (.iconst 0, 1) := by decide +kernel
theorem dL_prize_26 : decode cL_prize 26 = .ok (.istore 10, 2) := by decide +kernel
theorem dL_prize_28 : decode cL_prize 28 = .ok (.iload 10, 2) := by decide +kernel
theorem dL_prize_30 : decode cL_prize 30 = .ok (.bipush 40, 2) := by decide +kernel
theorem dL_prize_32 : decode cL_prize 32 = .ok (.if_icmp .ge 76, 3) := by decide +kernel
theorem dL_prize_35 : decode cL_prize 35 = .ok (.iload 8, 2) := by decide +kernel
theorem dL_prize_37 : decode cL_prize 37 = .ok (.aload_n 1, 1) := by decide +kernel
theorem dL_prize_38 : decode cL_prize 38 = .ok (.iload 10, 2) := by decide +kernel
theorem dL_prize_40 : decode cL_prize 40 = .ok (.iaload, 1) := by decide +kernel
theorem dL_prize_41 : decode cL_prize 41 = .ok (.ifCond .le 26, 3) := by decide +kernel
theorem dL_prize_44 : decode cL_prize 44 = .ok (.aload_n 0, 1) := by decide +kernel
theorem dL_prize_45 : decode cL_prize 45 = .ok (.iconst 4, 1) := by decide +kernel
theorem dL_prize_46 : decode cL_prize 46 = .ok (.iload 10, 2) := by decide +kernel
theorem dL_prize_48 : decode cL_prize 48 = .ok (.bipush 10, 2) := by decide +kernel
theorem dL_prize_50 : decode cL_prize 50 = .ok (.irem, 1) := by decide +kernel
theorem dL_prize_51 : decode cL_prize 51 = .ok (.imul, 1) := by decide +kernel
theorem dL_prize_52 : decode cL_prize 52 = .ok (.iaload, 1) := by decide +kernel
theorem dL_prize_53 : decode cL_prize 53 = .ok (.iload 7, 2) := by decide +kernel
theorem dL_prize_55 : decode cL_prize 55 = .ok (.if_icmp .ne 12, 3) := by decide +kernel
theorem dL_prize_58 : decode cL_prize 58 = .ok (.aload_n 1, 1) := by decide +kernel
theorem dL_prize_59 : decode cL_prize 59 = .ok (.iload 10, 2) := by decide +kernel
theorem dL_prize_61 : decode cL_prize 61 = .ok (.iaload, 1) := by decide +kernel
theorem dL_prize_62 : decode cL_prize 62 = .ok (.iconst 1, 1) := by decide +kernel
theorem dL_prize_63 : decode cL_prize 63 = .ok (.isub, 1) := by decide +kernel
theorem dL_prize_64 : decode cL_prize 64 = .ok (.goto 4, 3) := by decide +kernel
theorem dL_prize_67 : decode cL_prize 67 = .ok (.iconst 0, 1) := by decide +kernel
theorem dL_prize_68 : decode cL_prize 68 = .ok (.iadd, 1) := by decide +kernel
theorem dL_prize_69 : decode cL_prize 69 = .ok (.istore 8, 2) := by decide +kernel
theorem dL_prize_71 : decode cL_prize 71 = .ok (.iload 9, 2) := by decide +kernel
theorem dL_prize_73 : decode cL_prize 73 = .ok (.aload_n 1, 1) := by decide +kernel
theorem dL_prize_74 : decode cL_prize 74 = .ok (.iload 10, 2) := by decide +kernel
theorem dL_prize_76 : decode cL_prize 76 = .ok (.iaload, 1) := by decide +kernel
theorem dL_prize_77 : decode cL_prize 77 = .ok (.ifCond .le 21, 3) := by decide +kernel
theorem dL_prize_80 : decode cL_prize 80 = .ok (.aload_n 0, 1) := by decide +kernel
theorem dL_prize_81 : decode cL_prize 81 = .ok (.iconst 4, 1) := by decide +kernel
theorem dL_prize_82 : decode cL_prize 82 = .ok (.iload 10, 2) := by decide +kernel
theorem dL_prize_84 : decode cL_prize 84 = .ok (.bipush 10, 2) := by decide +kernel
theorem dL_prize_86 : decode cL_prize 86 = .ok (.irem, 1) := by decide +kernel
theorem dL_prize_87 : decode cL_prize 87 = .ok (.imul, 1) := by decide +kernel
theorem dL_prize_88 : decode cL_prize 88 = .ok (.iaload, 1) := by decide +kernel
theorem dL_prize_89 : decode cL_prize 89 = .ok (.iload 7, 2) := by decide +kernel
theorem dL_prize_91 : decode cL_prize 91 = .ok (.if_icmp .ne 7, 3) := by decide +kernel
theorem dL_prize_94 : decode cL_prize 94 = .ok (.iconst 1, 1) := by decide +kernel
theorem dL_prize_95 : decode cL_prize 95 = .ok (.goto 4, 3) := by decide +kernel
theorem dL_prize_98 : decode cL_prize 98 = .ok (.iconst 0, 1) := by decide +kernel
theorem dL_prize_99 : decode cL_prize 99 = .ok (.iadd, 1) := by decide +kernel
theorem dL_prize_100 : decode cL_prize 100 = .ok (.istore 9, 2) := by decide +kernel
theorem dL_prize_102 : decode cL_prize 102 = .ok (.iinc 10 1, 3) := by decide +kernel
theorem dL_prize_105 : decode cL_prize 105 = .ok (.goto (-77), 3) := by decide +kernel
theorem dL_prize_108 : decode cL_prize 108 = .ok (.iload 9, 2) := by decide +kernel
theorem dL_prize_110 : decode cL_prize 110 = .ok (.ifCond .le 25, 3) := by decide +kernel
theorem dL_prize_113 : decode cL_prize 113 = .ok (.iload 4, 2) := by decide +kernel
theorem dL_prize_115 : decode cL_prize 115 = .ok (.ifCond .lt 16, 3) := by decide +kernel
theorem dL_prize_118 : decode cL_prize 118 = .ok (.iload 8, 2) := by decide +kernel
theorem dL_prize_120 : decode cL_prize 120 = .ok (.iload 6, 2) := by decide +kernel
theorem dL_prize_122 : decode cL_prize 122 = .ok (.imul, 1) := by decide +kernel
theorem dL_prize_123 : decode cL_prize 123 = .ok (.iload 5, 2) := by decide +kernel
theorem dL_prize_125 : decode cL_prize 125 = .ok (.iload 9, 2) := by decide +kernel
theorem dL_prize_127 : decode cL_prize 127 = .ok (.imul, 1) := by decide +kernel
theorem dL_prize_128 : decode cL_prize 128 = .ok (.if_icmp .lt 7, 3) := by decide +kernel
theorem dL_prize_131 : decode cL_prize 131 = .ok (.iconst 1, 1) := by decide +kernel
theorem dL_prize_132 : decode cL_prize 132 = .ok (.goto 4, 3) := by decide +kernel
theorem dL_prize_135 : decode cL_prize 135 = .ok (.iconst 0, 1) := by decide +kernel
theorem dL_prize_136 : decode cL_prize 136 = .ok (.istore 10, 2) := by decide +kernel
theorem dL_prize_138 : decode cL_prize 138 = .ok (.iload 10, 2) := by decide +kernel
theorem dL_prize_140 : decode cL_prize 140 = .ok (.ifCond .eq 8, 3) := by decide +kernel
theorem dL_prize_143 : decode cL_prize 143 = .ok (.iload 7, 2) := by decide +kernel
theorem dL_prize_145 : decode cL_prize 145 = .ok (.goto 5, 3) := by decide +kernel
theorem dL_prize_148 : decode cL_prize 148 = .ok (.iload 4, 2) := by decide +kernel
theorem dL_prize_150 : decode cL_prize 150 = .ok (.istore 4, 2) := by decide +kernel
theorem dL_prize_152 : decode cL_prize 152 = .ok (.iload 10, 2) := by decide +kernel
theorem dL_prize_154 : decode cL_prize 154 = .ok (.ifCond .eq 8, 3) := by decide +kernel
theorem dL_prize_157 : decode cL_prize 157 = .ok (.iload 8, 2) := by decide +kernel
theorem dL_prize_159 : decode cL_prize 159 = .ok (.goto 5, 3) := by decide +kernel
theorem dL_prize_162 : decode cL_prize 162 = .ok (.iload 5, 2) := by decide +kernel
theorem dL_prize_164 : decode cL_prize 164 = .ok (.istore 5, 2) := by decide +kernel
theorem dL_prize_166 : decode cL_prize 166 = .ok (.iload 10, 2) := by decide +kernel
theorem dL_prize_168 : decode cL_prize 168 = .ok (.ifCond .eq 8, 3) := by decide +kernel
theorem dL_prize_171 : decode cL_prize 171 = .ok (.iload 9, 2) := by decide +kernel
theorem dL_prize_173 : decode cL_prize 173 = .ok (.goto 5, 3) := by decide +kernel
theorem dL_prize_176 : decode cL_prize 176 = .ok (.iload 6, 2) := by decide +kernel
theorem dL_prize_178 : decode cL_prize 178 = .ok (.istore 6, 2) := by decide +kernel
theorem dL_prize_180 : decode cL_prize 180 = .ok (.iinc 7 (-1), 3) := by decide +kernel
theorem dL_prize_183 : decode cL_prize 183 = .ok (.goto (-169), 3) := by decide +kernel
theorem dL_prize_186 : decode cL_prize 186 = .ok (.iload 4, 2) := by decide +kernel
theorem dL_prize_188 : decode cL_prize 188 = .ok (.ireturn, 1) := by decide +kernel
theorem dL_alike_0 : decode cL_alike 0 = .ok (.iconst 0, 1) := by decide +kernel
theorem dL_alike_1 : decode cL_alike 1 = .ok (.istore 4, 2) := by decide +kernel
theorem dL_alike_3 : decode cL_alike 3 = .ok (.iconst 0, 1) := by decide +kernel
theorem dL_alike_4 : decode cL_alike 4 = .ok (.istore 5, 2) := by decide +kernel
theorem dL_alike_6 : decode cL_alike 6 = .ok (.iload 5, 2) := by decide +kernel
theorem dL_alike_8 : decode cL_alike 8 = .ok (.bipush 10, 2) := by decide +kernel
theorem dL_alike_10 : decode cL_alike 10 = .ok (.if_icmp .ge 35, 3) := by decide +kernel
theorem dL_alike_13 : decode cL_alike 13 = .ok (.iload 4, 2) := by decide +kernel
theorem dL_alike_15 : decode cL_alike 15 = .ok (.aload_n 0, 1) := by decide +kernel
theorem dL_alike_16 : decode cL_alike 16 = .ok (.aload_n 1, 1) := by decide +kernel
theorem dL_alike_17 : decode cL_alike 17 = .ok (.iload_n 2, 1) := by decide +kernel
theorem dL_alike_18 : decode cL_alike 18 = .ok (.invokestatic 19, 3) := by decide +kernel
theorem dL_alike_21 : decode cL_alike 21 = .ok (.iload 5, 2) := by decide +kernel
theorem dL_alike_23 : decode cL_alike 23 = .ok (.ishr, 1) := by decide +kernel
theorem dL_alike_24 : decode cL_alike 24 = .ok (.aload_n 0, 1) := by decide +kernel
theorem dL_alike_25 : decode cL_alike 25 = .ok (.aload_n 1, 1) := by decide +kernel
theorem dL_alike_26 : decode cL_alike 26 = .ok (.iload_n 3, 1) := by decide +kernel
theorem dL_alike_27 : decode cL_alike 27 = .ok (.invokestatic 19, 3) := by decide +kernel
theorem dL_alike_30 : decode cL_alike 30 = .ok (.iload 5, 2) := by decide +kernel
theorem dL_alike_32 : decode cL_alike 32 = .ok (.ishr, 1) := by decide +kernel
theorem dL_alike_33 : decode cL_alike 33 = .ok (.iand, 1) := by decide +kernel
theorem dL_alike_34 : decode cL_alike 34 = .ok (.iconst 1, 1) := by decide +kernel
theorem dL_alike_35 : decode cL_alike 35 = .ok (.iand, 1) := by decide +kernel
theorem dL_alike_36 : decode cL_alike 36 = .ok (.iadd, 1) := by decide +kernel
theorem dL_alike_37 : decode cL_alike 37 = .ok (.istore 4, 2) := by decide +kernel
theorem dL_alike_39 : decode cL_alike 39 = .ok (.iinc 5 1, 3) := by decide +kernel
theorem dL_alike_42 : decode cL_alike 42 = .ok (.goto (-36), 3) := by decide +kernel
theorem dL_alike_45 : decode cL_alike 45 = .ok (.iconst 0, 1) := by decide +kernel
theorem dL_alike_46 : decode cL_alike 46 = .ok (.istore 5, 2) := by decide +kernel
theorem dL_alike_48 : decode cL_alike 48 = .ok (.iload 5, 2) := by decide +kernel
theorem dL_alike_50 : decode cL_alike 50 = .ok (.bipush 6, 2) := by decide +kernel
theorem dL_alike_52 : decode cL_alike 52 = .ok (.if_icmp .ge 48, 3) := by decide +kernel
theorem dL_alike_55 : decode cL_alike 55 = .ok (.iload 4, 2) := by decide +kernel
theorem dL_alike_57 : decode cL_alike 57 = .ok (.aload_n 1, 1) := by decide +kernel
theorem dL_alike_58 : decode cL_alike 58 = .ok (.bipush 6, 2) := by decide +kernel
theorem dL_alike_60 : decode cL_alike 60 = .ok (.iload_n 2, 1) := by decide +kernel
theorem dL_alike_61 : decode cL_alike 61 = .ok (.imul, 1) := by decide +kernel
theorem dL_alike_62 : decode cL_alike 62 = .ok (.iload 5, 2) := by decide +kernel
theorem dL_alike_64 : decode cL_alike 64 = .ok (.iadd, 1) := by decide +kernel
theorem dL_alike_65 : decode cL_alike 65 = .ok (.iaload, 1) := by decide +kernel
theorem dL_alike_66 : decode cL_alike 66 = .ok (.ifCond .le 24, 3) := by decide +kernel
theorem dL_alike_69 : decode cL_alike 69 = .ok (.aload_n 1, 1) := by decide +kernel
theorem dL_alike_70 : decode cL_alike 70 = .ok (.iload_n 3, 1) := by decide +kernel
theorem dL_alike_71 : decode cL_alike 71 = .ok (.aload_n 1, 1) := by decide +kernel
theorem dL_alike_72 : decode cL_alike 72 = .ok (.bipush 6, 2) := by decide +kernel
theorem dL_alike_74 : decode cL_alike 74 = .ok (.iload_n 2, 1) := by decide +kernel
theorem dL_alike_75 : decode cL_alike 75 = .ok (.imul, 1) := by decide +kernel
theorem dL_alike_76 : decode cL_alike 76 = .ok (.iload 5, 2) := by decide +kernel
theorem dL_alike_78 : decode cL_alike 78 = .ok (.iadd, 1) := by decide +kernel
theorem dL_alike_79 : decode cL_alike 79 = .ok (.iaload, 1) := by decide +kernel
theorem dL_alike_80 : decode cL_alike 80 = .ok (.invokestatic 15, 3) := by decide +kernel
theorem dL_alike_83 : decode cL_alike 83 = .ok (.ifCond .eq 7, 3) := by decide +kernel
theorem dL_alike_86 : decode cL_alike 86 = .ok (.iconst 3, 1) := by decide +kernel
theorem dL_alike_87 : decode cL_alike 87 = .ok (.goto 4, 3) := by decide +kernel
theorem dL_alike_90 : decode cL_alike 90 = .ok (.iconst 0, 1) := by decide +kernel
theorem dL_alike_91 : decode cL_alike 91 = .ok (.iadd, 1) := by decide +kernel
theorem dL_alike_92 : decode cL_alike 92 = .ok (.istore 4, 2) := by decide +kernel
theorem dL_alike_94 : decode cL_alike 94 = .ok (.iinc 5 1, 3) := by decide +kernel
theorem dL_alike_97 : decode cL_alike 97 = .ok (.goto (-49), 3) := by decide +kernel
theorem dL_alike_100 : decode cL_alike 100 = .ok (.iload 4, 2) := by decide +kernel
theorem dL_alike_102 : decode cL_alike 102 = .ok (.ireturn, 1) := by decide +kernel
theorem dL_hand_0 : decode cL_hand 0 = .ok (.iconst (-1), 1) := by decide +kernel
theorem dL_hand_1 : decode cL_hand 1 = .ok (.istore 5, 2) := by decide +kernel
theorem dL_hand_3 : decode cL_hand 3 = .ok (.iconst 0, 1) := by decide +kernel
theorem dL_hand_4 : decode cL_hand 4 = .ok (.istore 6, 2) := by decide +kernel
theorem dL_hand_6 : decode cL_hand 6 = .ok (.iconst 1, 1) := by decide +kernel
theorem dL_hand_7 : decode cL_hand 7 = .ok (.istore 7, 2) := by decide +kernel
theorem dL_hand_9 : decode cL_hand 9 = .ok (.iconst 2, 1) := by decide +kernel
theorem dL_hand_10 : decode cL_hand 10 = .ok (.istore 8, 2) := by decide +kernel
theorem dL_hand_12 : decode cL_hand 12 = .ok (.iload 8, 2) := by decide +kernel
theorem dL_hand_14 : decode cL_hand 14 = .ok (.ifCond .lt 150, 3) := by decide +kernel
theorem dL_hand_17 : decode cL_hand 17 = .ok (.iconst 0, 1) := by decide +kernel
theorem dL_hand_18 : decode cL_hand 18 = .ok (.istore 9, 2) := by decide +kernel
theorem dL_hand_20 : decode cL_hand 20 = .ok (.iconst 0, 1) := by decide +kernel
theorem dL_hand_21 : decode cL_hand 21 = .ok (.istore 10, 2) := by decide +kernel
theorem dL_hand_23 : decode cL_hand 23 = .ok (.iconst 0, 1) := by decide +kernel
theorem dL_hand_24 : decode cL_hand 24 = .ok (.istore 11, 2) := by decide +kernel
theorem dL_hand_26 : decode cL_hand 26 = .ok (.iload 11, 2) := by decide +kernel
theorem dL_hand_28 : decode cL_hand 28 = .ok (.aload_n 3, 1) := by decide +kernel
theorem dL_hand_29 : decode cL_hand 29 = .ok (.iconst 3, 1) := by decide +kernel
theorem dL_hand_30 : decode cL_hand 30 = .ok (.iaload, 1) := by decide +kernel
theorem dL_hand_31 : decode cL_hand 31 = .ok (.if_icmp .ge 55, 3) := by decide +kernel
theorem dL_hand_34 : decode cL_hand 34 = .ok (.iload 11, 2) := by decide +kernel
theorem dL_hand_36 : decode cL_hand 36 = .ok (.iload 4, 2) := by decide +kernel
theorem dL_hand_38 : decode cL_hand 38 = .ok (.if_icmp .eq 42, 3) := by decide +kernel
theorem dL_hand_41 : decode cL_hand 41 = .ok (.aload_n 2, 1) := by decide +kernel
theorem dL_hand_42 : decode cL_hand 42 = .ok (.iconst 4, 1) := by decide +kernel
theorem dL_hand_43 : decode cL_hand 43 = .ok (.iload 11, 2) := by decide +kernel
theorem dL_hand_45 : decode cL_hand 45 = .ok (.imul, 1) := by decide +kernel
theorem dL_hand_46 : decode cL_hand 46 = .ok (.iaload, 1) := by decide +kernel
theorem dL_hand_47 : decode cL_hand 47 = .ok (.iload 8, 2) := by decide +kernel
theorem dL_hand_49 : decode cL_hand 49 = .ok (.if_icmp .ne 31, 3) := by decide +kernel
theorem dL_hand_52 : decode cL_hand 52 = .ok (.aload_n 2, 1) := by decide +kernel
theorem dL_hand_53 : decode cL_hand 53 = .ok (.iconst 4, 1) := by decide +kernel
theorem dL_hand_54 : decode cL_hand 54 = .ok (.iload 11, 2) := by decide +kernel
theorem dL_hand_56 : decode cL_hand 56 = .ok (.imul, 1) := by decide +kernel
theorem dL_hand_57 : decode cL_hand 57 = .ok (.iconst 2, 1) := by decide +kernel
theorem dL_hand_58 : decode cL_hand 58 = .ok (.iadd, 1) := by decide +kernel
theorem dL_hand_59 : decode cL_hand 59 = .ok (.iaload, 1) := by decide +kernel
theorem dL_hand_60 : decode cL_hand 60 = .ok (.ifCond .ne 20, 3) := by decide +kernel
theorem dL_hand_63 : decode cL_hand 63 = .ok (.iload 9, 2) := by decide +kernel
theorem dL_hand_65 : decode cL_hand 65 = .ok (.aload_n 0, 1) := by decide +kernel
theorem dL_hand_66 : decode cL_hand 66 = .ok (.aload_n 1, 1) := by decide +kernel
theorem dL_hand_67 : decode cL_hand 67 = .ok (.iload 4, 2) := by decide +kernel
theorem dL_hand_69 : decode cL_hand 69 = .ok (.iload 11, 2) := by decide +kernel
theorem dL_hand_71 : decode cL_hand 71 = .ok (.invokestatic 50, 3) := by decide +kernel
theorem dL_hand_74 : decode cL_hand 74 = .ok (.iadd, 1) := by decide +kernel
theorem dL_hand_75 : decode cL_hand 75 = .ok (.istore 9, 2) := by decide +kernel
theorem dL_hand_77 : decode cL_hand 77 = .ok (.iinc 10 1, 3) := by decide +kernel
theorem dL_hand_80 : decode cL_hand 80 = .ok (.iinc 11 1, 3) := by decide +kernel
theorem dL_hand_83 : decode cL_hand 83 = .ok (.goto (-57), 3) := by decide +kernel
theorem dL_hand_86 : decode cL_hand 86 = .ok (.iload 10, 2) := by decide +kernel
theorem dL_hand_88 : decode cL_hand 88 = .ok (.ifCond .le 25, 3) := by decide +kernel
theorem dL_hand_91 : decode cL_hand 91 = .ok (.iload 5, 2) := by decide +kernel
theorem dL_hand_93 : decode cL_hand 93 = .ok (.ifCond .lt 16, 3) := by decide +kernel
theorem dL_hand_96 : decode cL_hand 96 = .ok (.iload 9, 2) := by decide +kernel
theorem dL_hand_98 : decode cL_hand 98 = .ok (.iload 7, 2) := by decide +kernel
theorem dL_hand_100 : decode cL_hand 100 = .ok (.imul, 1) := by decide +kernel
theorem dL_hand_101 : decode cL_hand 101 = .ok (.iload 6, 2) := by decide +kernel
theorem dL_hand_103 : decode cL_hand 103 = .ok (.iload 10, 2) := by decide +kernel
theorem dL_hand_105 : decode cL_hand 105 = .ok (.imul, 1) := by decide +kernel
theorem dL_hand_106 : decode cL_hand 106 = .ok (.if_icmp .lt 7, 3) := by decide +kernel
theorem dL_hand_109 : decode cL_hand 109 = .ok (.iconst 1, 1) := by decide +kernel
theorem dL_hand_110 : decode cL_hand 110 = .ok (.goto 4, 3) := by decide +kernel
theorem dL_hand_113 : decode cL_hand 113 = .ok (.iconst 0, 1) := by decide +kernel
theorem dL_hand_114 : decode cL_hand 114 = .ok (.istore 11, 2) := by decide +kernel
theorem dL_hand_116 : decode cL_hand 116 = .ok (.iload 11, 2) := by decide +kernel
theorem dL_hand_118 : decode cL_hand 118 = .ok (.ifCond .eq 8, 3) := by decide +kernel
theorem dL_hand_121 : decode cL_hand 121 = .ok (.iload 8, 2) := by decide +kernel
theorem dL_hand_123 : decode cL_hand 123 = .ok (.goto 5, 3) := by decide +kernel
theorem dL_hand_126 : decode cL_hand 126 = .ok (.iload 5, 2) := by decide +kernel
theorem dL_hand_128 : decode cL_hand 128 = .ok (.istore 5, 2) := by decide +kernel
theorem dL_hand_130 : decode cL_hand 130 = .ok (.iload 11, 2) := by decide +kernel
theorem dL_hand_132 : decode cL_hand 132 = .ok (.ifCond .eq 8, 3) := by decide +kernel
theorem dL_hand_135 : decode cL_hand 135 = .ok (.iload 9, 2) := by decide +kernel
theorem dL_hand_137 : decode cL_hand 137 = .ok (.goto 5, 3) := by decide +kernel
theorem dL_hand_140 : decode cL_hand 140 = .ok (.iload 6, 2) := by decide +kernel
theorem dL_hand_142 : decode cL_hand 142 = .ok (.istore 6, 2) := by decide +kernel
theorem dL_hand_144 : decode cL_hand 144 = .ok (.iload 11, 2) := by decide +kernel
theorem dL_hand_146 : decode cL_hand 146 = .ok (.ifCond .eq 8, 3) := by decide +kernel
theorem dL_hand_149 : decode cL_hand 149 = .ok (.iload 10, 2) := by decide +kernel
theorem dL_hand_151 : decode cL_hand 151 = .ok (.goto 5, 3) := by decide +kernel
theorem dL_hand_154 : decode cL_hand 154 = .ok (.iload 7, 2) := by decide +kernel
theorem dL_hand_156 : decode cL_hand 156 = .ok (.istore 7, 2) := by decide +kernel
theorem dL_hand_158 : decode cL_hand 158 = .ok (.iinc 8 (-1), 3) := by decide +kernel
theorem dL_hand_161 : decode cL_hand 161 = .ok (.goto (-149), 3) := by decide +kernel
theorem dL_hand_164 : decode cL_hand 164 = .ok (.iload 5, 2) := by decide +kernel
theorem dL_hand_166 : decode cL_hand 166 = .ok (.ireturn, 1) := by decide +kernel
theorem dL_isSame_0 : decode cL_isSame 0 = .ok (.aload_n 0, 1) := by decide +kernel
theorem dL_isSame_1 : decode cL_isSame 1 = .ok (.invokevirtual 54, 3) := by decide +kernel
theorem dL_isSame_4 : decode cL_isSame 4 = .ok (.aload 6, 2) := by decide +kernel
theorem dL_isSame_6 : decode cL_isSame 6 = .ok (.iconst 3, 1) := by decide +kernel
theorem dL_isSame_7 : decode cL_isSame 7 = .ok (.iaload, 1) := by decide +kernel
theorem dL_isSame_8 : decode cL_isSame 8 = .ok (.if_icmp .ne 47, 3) := by decide +kernel
theorem dL_isSame_11 : decode cL_isSame 11 = .ok (.aload_n 0, 1) := by decide +kernel
theorem dL_isSame_12 : decode cL_isSame 12 = .ok (.invokevirtual 60, 3) := by decide +kernel
theorem dL_isSame_15 : decode cL_isSame 15 = .ok (.aload 6, 2) := by decide +kernel
theorem dL_isSame_17 : decode cL_isSame 17 = .ok (.iconst 5, 1) := by decide +kernel
theorem dL_isSame_18 : decode cL_isSame 18 = .ok (.iaload, 1) := by decide +kernel
theorem dL_isSame_19 : decode cL_isSame 19 = .ok (.if_icmp .ne 36, 3) := by decide +kernel
theorem dL_isSame_22 : decode cL_isSame 22 = .ok (.aload_n 0, 1) := by decide +kernel
theorem dL_isSame_23 : decode cL_isSame 23 = .ok (.invokevirtual 63, 3) := by decide +kernel
theorem dL_isSame_26 : decode cL_isSame 26 = .ok (.aload 6, 2) := by decide +kernel
theorem dL_isSame_28 : decode cL_isSame 28 = .ok (.bipush 6, 2) := by decide +kernel
theorem dL_isSame_30 : decode cL_isSame 30 = .ok (.iaload, 1) := by decide +kernel
theorem dL_isSame_31 : decode cL_isSame 31 = .ok (.if_icmp .ne 24, 3) := by decide +kernel
theorem dL_isSame_34 : decode cL_isSame 34 = .ok (.aload_n 0, 1) := by decide +kernel
theorem dL_isSame_35 : decode cL_isSame 35 = .ok (.invokevirtual 66, 3) := by decide +kernel
theorem dL_isSame_38 : decode cL_isSame 38 = .ok (.aload 4, 2) := by decide +kernel
theorem dL_isSame_40 : decode cL_isSame 40 = .ok (.aload 5, 2) := by decide +kernel
theorem dL_isSame_42 : decode cL_isSame 42 = .ok (.aload 6, 2) := by decide +kernel
theorem dL_isSame_44 : decode cL_isSame 44 = .ok (.iconst 3, 1) := by decide +kernel
theorem dL_isSame_45 : decode cL_isSame 45 = .ok (.invokestatic 69, 3) := by decide +kernel
theorem dL_isSame_48 : decode cL_isSame 48 = .ok (.if_icmp .ne 7, 3) := by decide +kernel
theorem dL_isSame_51 : decode cL_isSame 51 = .ok (.iconst 1, 1) := by decide +kernel
theorem dL_isSame_52 : decode cL_isSame 52 = .ok (.goto 4, 3) := by decide +kernel
theorem dL_isSame_55 : decode cL_isSame 55 = .ok (.iconst 0, 1) := by decide +kernel
theorem dL_isSame_56 : decode cL_isSame 56 = .ok (.istore 10, 2) := by decide +kernel
theorem dL_isSame_58 : decode cL_isSame 58 = .ok (.aload 6, 2) := by decide +kernel
theorem dL_isSame_60 : decode cL_isSame 60 = .ok (.iconst 3, 1) := by decide +kernel
theorem dL_isSame_61 : decode cL_isSame 61 = .ok (.iaload, 1) := by decide +kernel
theorem dL_isSame_62 : decode cL_isSame 62 = .ok (.ifCond .le 285, 3) := by decide +kernel
theorem dL_isSame_65 : decode cL_isSame 65 = .ok (.iload 10, 2) := by decide +kernel
theorem dL_isSame_67 : decode cL_isSame 67 = .ok (.ifCond .eq 280, 3) := by decide +kernel
theorem dL_isSame_70 : decode cL_isSame 70 = .ok (.iload 9, 2) := by decide +kernel
theorem dL_isSame_72 : decode cL_isSame 72 = .ok (.aload 6, 2) := by decide +kernel
theorem dL_isSame_74 : decode cL_isSame 74 = .ok (.iconst 3, 1) := by decide +kernel
theorem dL_isSame_75 : decode cL_isSame 75 = .ok (.iaload, 1) := by decide +kernel
theorem dL_isSame_76 : decode cL_isSame 76 = .ok (.irem, 1) := by decide +kernel
theorem dL_isSame_77 : decode cL_isSame 77 = .ok (.istore 11, 2) := by decide +kernel
theorem dL_isSame_79 : decode cL_isSame 79 = .ok (.iload 9, 2) := by decide +kernel
theorem dL_isSame_81 : decode cL_isSame 81 = .ok (.bipush 10, 2) := by decide +kernel
theorem dL_isSame_83 : decode cL_isSame 83 = .ok (.idiv, 1) := by decide +kernel
theorem dL_isSame_84 : decode cL_isSame 84 = .ok (.bipush 6, 2) := by decide +kernel
theorem dL_isSame_86 : decode cL_isSame 86 = .ok (.irem, 1) := by decide +kernel
theorem dL_isSame_87 : decode cL_isSame 87 = .ok (.istore 12, 2) := by decide +kernel
theorem dL_isSame_89 : decode cL_isSame 89 = .ok (.iconst 0, 1) := by decide +kernel
theorem dL_isSame_90 : decode cL_isSame 90 = .ok (.istore 13, 2) := by decide +kernel
theorem dL_isSame_92 : decode cL_isSame 92 = .ok (.iconst 0, 1) := by decide +kernel
theorem dL_isSame_93 : decode cL_isSame 93 = .ok (.istore 14, 2) := by decide +kernel
theorem dL_isSame_95 : decode cL_isSame 95 = .ok (.iload 14, 2) := by decide +kernel
theorem dL_isSame_97 : decode cL_isSame 97 = .ok (.bipush 6, 2) := by decide +kernel
theorem dL_isSame_99 : decode cL_isSame 99 = .ok (.if_icmp .ge 32, 3) := by decide +kernel
theorem dL_isSame_102 : decode cL_isSame 102 = .ok (.iload 13, 2) := by decide +kernel
theorem dL_isSame_104 : decode cL_isSame 104 = .ok (.aload_n 3, 1) := by decide +kernel
theorem dL_isSame_105 : decode cL_isSame 105 = .ok (.bipush 6, 2) := by decide +kernel
theorem dL_isSame_107 : decode cL_isSame 107 = .ok (.iload 11, 2) := by decide +kernel
theorem dL_isSame_109 : decode cL_isSame 109 = .ok (.imul, 1) := by decide +kernel
theorem dL_isSame_110 : decode cL_isSame 110 = .ok (.iload 14, 2) := by decide +kernel
theorem dL_isSame_112 : decode cL_isSame 112 = .ok (.iadd, 1) := by decide +kernel
theorem dL_isSame_113 : decode cL_isSame 113 = .ok (.iaload, 1) := by decide +kernel
theorem dL_isSame_114 : decode cL_isSame 114 = .ok (.ifCond .le 7, 3) := by decide +kernel
theorem dL_isSame_117 : decode cL_isSame 117 = .ok (.iconst 1, 1) := by decide +kernel
theorem dL_isSame_118 : decode cL_isSame 118 = .ok (.goto 4, 3) := by decide +kernel
theorem dL_isSame_121 : decode cL_isSame 121 = .ok (.iconst 0, 1) := by decide +kernel
theorem dL_isSame_122 : decode cL_isSame 122 = .ok (.iadd, 1) := by decide +kernel
theorem dL_isSame_123 : decode cL_isSame 123 = .ok (.istore 13, 2) := by decide +kernel
theorem dL_isSame_125 : decode cL_isSame 125 = .ok (.iinc 14 1, 3) := by decide +kernel
theorem dL_isSame_128 : decode cL_isSame 128 = .ok (.goto (-33), 3) := by decide +kernel
theorem dL_isSame_131 : decode cL_isSame 131 = .ok (.aload_n 0, 1) := by decide +kernel
theorem dL_isSame_132 : decode cL_isSame 132 = .ok (.iload 11, 2) := by decide +kernel
theorem dL_isSame_134 : decode cL_isSame 134 = .ok (.iconst 0, 1) := by decide +kernel
theorem dL_isSame_135 : decode cL_isSame 135 = .ok (.invokevirtual 71, 3) := by decide +kernel
theorem dL_isSame_138 : decode cL_isSame 138 = .ok (.aload 4, 2) := by decide +kernel
theorem dL_isSame_140 : decode cL_isSame 140 = .ok (.iconst 4, 1) := by decide +kernel
theorem dL_isSame_141 : decode cL_isSame 141 = .ok (.iload 11, 2) := by decide +kernel
theorem dL_isSame_143 : decode cL_isSame 143 = .ok (.imul, 1) := by decide +kernel
theorem dL_isSame_144 : decode cL_isSame 144 = .ok (.iconst 2, 1) := by decide +kernel
theorem dL_isSame_145 : decode cL_isSame 145 = .ok (.iadd, 1) := by decide +kernel
theorem dL_isSame_146 : decode cL_isSame 146 = .ok (.iaload, 1) := by decide +kernel
theorem dL_isSame_147 : decode cL_isSame 147 = .ok (.iconst 1, 1) := by decide +kernel
theorem dL_isSame_148 : decode cL_isSame 148 = .ok (.if_icmp .ne 7, 3) := by decide +kernel
theorem dL_isSame_151 : decode cL_isSame 151 = .ok (.iconst (-1), 1) := by decide +kernel
theorem dL_isSame_152 : decode cL_isSame 152 = .ok (.goto 10, 3) := by decide +kernel
theorem dL_isSame_155 : decode cL_isSame 155 = .ok (.aload 4, 2) := by decide +kernel
theorem dL_isSame_157 : decode cL_isSame 157 = .ok (.iconst 4, 1) := by decide +kernel
theorem dL_isSame_158 : decode cL_isSame 158 = .ok (.iload 11, 2) := by decide +kernel
theorem dL_isSame_160 : decode cL_isSame 160 = .ok (.imul, 1) := by decide +kernel
theorem dL_isSame_161 : decode cL_isSame 161 = .ok (.iaload, 1) := by decide +kernel
theorem dL_isSame_162 : decode cL_isSame 162 = .ok (.if_icmp .ne 89, 3) := by decide +kernel
theorem dL_isSame_165 : decode cL_isSame 165 = .ok (.aload_n 0, 1) := by decide +kernel
theorem dL_isSame_166 : decode cL_isSame 166 = .ok (.iload 11, 2) := by decide +kernel
theorem dL_isSame_168 : decode cL_isSame 168 = .ok (.iconst 1, 1) := by decide +kernel
theorem dL_isSame_169 : decode cL_isSame 169 = .ok (.invokevirtual 71, 3) := by decide +kernel
theorem dL_isSame_172 : decode cL_isSame 172 = .ok (.aload_n 1, 1) := by decide +kernel
theorem dL_isSame_173 : decode cL_isSame 173 = .ok (.aload_n 3, 1) := by decide +kernel
theorem dL_isSame_174 : decode cL_isSame 174 = .ok (.iload 11, 2) := by decide +kernel
theorem dL_isSame_176 : decode cL_isSame 176 = .ok (.invokestatic 9, 3) := by decide +kernel
theorem dL_isSame_179 : decode cL_isSame 179 = .ok (.if_icmp .ne 72, 3) := by decide +kernel
theorem dL_isSame_182 : decode cL_isSame 182 = .ok (.aload_n 0, 1) := by decide +kernel
theorem dL_isSame_183 : decode cL_isSame 183 = .ok (.iload 11, 2) := by decide +kernel
theorem dL_isSame_185 : decode cL_isSame 185 = .ok (.iconst 2, 1) := by decide +kernel
theorem dL_isSame_186 : decode cL_isSame 186 = .ok (.invokevirtual 71, 3) := by decide +kernel
theorem dL_isSame_189 : decode cL_isSame 189 = .ok (.aload_n 1, 1) := by decide +kernel
theorem dL_isSame_190 : decode cL_isSame 190 = .ok (.aload_n 3, 1) := by decide +kernel
theorem dL_isSame_191 : decode cL_isSame 191 = .ok (.iload 11, 2) := by decide +kernel
theorem dL_isSame_193 : decode cL_isSame 193 = .ok (.invokestatic 19, 3) := by decide +kernel
theorem dL_isSame_196 : decode cL_isSame 196 = .ok (.if_icmp .ne 55, 3) := by decide +kernel
theorem dL_isSame_199 : decode cL_isSame 199 = .ok (.aload_n 0, 1) := by decide +kernel
theorem dL_isSame_200 : decode cL_isSame 200 = .ok (.iload 11, 2) := by decide +kernel
theorem dL_isSame_202 : decode cL_isSame 202 = .ok (.iconst 3, 1) := by decide +kernel
theorem dL_isSame_203 : decode cL_isSame 203 = .ok (.invokevirtual 71, 3) := by decide +kernel
theorem dL_isSame_206 : decode cL_isSame 206 = .ok (.iload 13, 2) := by decide +kernel
theorem dL_isSame_208 : decode cL_isSame 208 = .ok (.if_icmp .ne 43, 3) := by decide +kernel
theorem dL_isSame_211 : decode cL_isSame 211 = .ok (.aload_n 0, 1) := by decide +kernel
theorem dL_isSame_212 : decode cL_isSame 212 = .ok (.iload 11, 2) := by decide +kernel
theorem dL_isSame_214 : decode cL_isSame 214 = .ok (.iconst 4, 1) := by decide +kernel
theorem dL_isSame_215 : decode cL_isSame 215 = .ok (.invokevirtual 71, 3) := by decide +kernel
theorem dL_isSame_218 : decode cL_isSame 218 = .ok (.aload_n 1, 1) := by decide +kernel
theorem dL_isSame_219 : decode cL_isSame 219 = .ok (.aload_n 3, 1) := by decide +kernel
theorem dL_isSame_220 : decode cL_isSame 220 = .ok (.iload 11, 2) := by decide +kernel
theorem dL_isSame_222 : decode cL_isSame 222 = .ok (.invokestatic 22, 3) := by decide +kernel
theorem dL_isSame_225 : decode cL_isSame 225 = .ok (.if_icmp .ne 26, 3) := by decide +kernel
theorem dL_isSame_228 : decode cL_isSame 228 = .ok (.aload_n 0, 1) := by decide +kernel
theorem dL_isSame_229 : decode cL_isSame 229 = .ok (.iload 11, 2) := by decide +kernel
theorem dL_isSame_231 : decode cL_isSame 231 = .ok (.iconst 5, 1) := by decide +kernel
theorem dL_isSame_232 : decode cL_isSame 232 = .ok (.invokevirtual 71, 3) := by decide +kernel
theorem dL_isSame_235 : decode cL_isSame 235 = .ok (.aload 4, 2) := by decide +kernel
theorem dL_isSame_237 : decode cL_isSame 237 = .ok (.iconst 4, 1) := by decide +kernel
theorem dL_isSame_238 : decode cL_isSame 238 = .ok (.iload 11, 2) := by decide +kernel
theorem dL_isSame_240 : decode cL_isSame 240 = .ok (.imul, 1) := by decide +kernel
theorem dL_isSame_241 : decode cL_isSame 241 = .ok (.iconst 3, 1) := by decide +kernel
theorem dL_isSame_242 : decode cL_isSame 242 = .ok (.iadd, 1) := by decide +kernel
theorem dL_isSame_243 : decode cL_isSame 243 = .ok (.iaload, 1) := by decide +kernel
theorem dL_isSame_244 : decode cL_isSame 244 = .ok (.if_icmp .ne 7, 3) := by decide +kernel
theorem dL_isSame_247 : decode cL_isSame 247 = .ok (.iconst 1, 1) := by decide +kernel
theorem dL_isSame_248 : decode cL_isSame 248 = .ok (.goto 4, 3) := by decide +kernel
theorem dL_isSame_251 : decode cL_isSame 251 = .ok (.iconst 0, 1) := by decide +kernel
theorem dL_isSame_252 : decode cL_isSame 252 = .ok (.istore 10, 2) := by decide +kernel
theorem dL_isSame_254 : decode cL_isSame 254 = .ok (.iload 10, 2) := by decide +kernel
theorem dL_isSame_256 : decode cL_isSame 256 = .ok (.ifCond .eq 88, 3) := by decide +kernel
theorem dL_isSame_259 : decode cL_isSame 259 = .ok (.iload 12, 2) := by decide +kernel
theorem dL_isSame_261 : decode cL_isSame 261 = .ok (.iload 13, 2) := by decide +kernel
theorem dL_isSame_263 : decode cL_isSame 263 = .ok (.if_icmp .ge 26, 3) := by decide +kernel
theorem dL_isSame_266 : decode cL_isSame 266 = .ok (.aload_n 0, 1) := by decide +kernel
theorem dL_isSame_267 : decode cL_isSame 267 = .ok (.iload 11, 2) := by decide +kernel
theorem dL_isSame_269 : decode cL_isSame 269 = .ok (.iload 12, 2) := by decide +kernel
theorem dL_isSame_271 : decode cL_isSame 271 = .ok (.invokevirtual 75, 3) := by decide +kernel
theorem dL_isSame_274 : decode cL_isSame 274 = .ok (.aload_n 3, 1) := by decide +kernel
theorem dL_isSame_275 : decode cL_isSame 275 = .ok (.bipush 6, 2) := by decide +kernel
theorem dL_isSame_277 : decode cL_isSame 277 = .ok (.iload 11, 2) := by decide +kernel
theorem dL_isSame_279 : decode cL_isSame 279 = .ok (.imul, 1) := by decide +kernel
theorem dL_isSame_280 : decode cL_isSame 280 = .ok (.iload 12, 2) := by decide +kernel
theorem dL_isSame_282 : decode cL_isSame 282 = .ok (.iadd, 1) := by decide +kernel
theorem dL_isSame_283 : decode cL_isSame 283 = .ok (.iaload, 1) := by decide +kernel
theorem dL_isSame_284 : decode cL_isSame 284 = .ok (.iconst 1, 1) := by decide +kernel
theorem dL_isSame_285 : decode cL_isSame 285 = .ok (.isub, 1) := by decide +kernel
theorem dL_isSame_286 : decode cL_isSame 286 = .ok (.if_icmp .ne 58, 3) := by decide +kernel
theorem dL_isSame_289 : decode cL_isSame 289 = .ok (.aload_n 0, 1) := by decide +kernel
theorem dL_isSame_290 : decode cL_isSame 290 = .ok (.iload 11, 2) := by decide +kernel
theorem dL_isSame_292 : decode cL_isSame 292 = .ok (.invokevirtual 78, 3) := by decide +kernel
theorem dL_isSame_295 : decode cL_isSame 295 = .ok (.aload_n 1, 1) := by decide +kernel
theorem dL_isSame_296 : decode cL_isSame 296 = .ok (.aload_n 2, 1) := by decide +kernel
theorem dL_isSame_297 : decode cL_isSame 297 = .ok (.aload_n 3, 1) := by decide +kernel
theorem dL_isSame_298 : decode cL_isSame 298 = .ok (.aload 4, 2) := by decide +kernel
theorem dL_isSame_300 : decode cL_isSame 300 = .ok (.aload 6, 2) := by decide +kernel
theorem dL_isSame_302 : decode cL_isSame 302 = .ok (.iload 11, 2) := by decide +kernel
theorem dL_isSame_304 : decode cL_isSame 304 = .ok (.aload 4, 2) := by decide +kernel
theorem dL_isSame_306 : decode cL_isSame 306 = .ok (.iconst 4, 1) := by decide +kernel
theorem dL_isSame_307 : decode cL_isSame 307 = .ok (.iload 11, 2) := by decide +kernel
theorem dL_isSame_309 : decode cL_isSame 309 = .ok (.imul, 1) := by decide +kernel
theorem dL_isSame_310 : decode cL_isSame 310 = .ok (.iaload, 1) := by decide +kernel
theorem dL_isSame_311 : decode cL_isSame 311 = .ok (.invokestatic 42, 3) := by decide +kernel
theorem dL_isSame_314 : decode cL_isSame 314 = .ok (.bipush 100, 2) := by decide +kernel
theorem dL_isSame_316 : decode cL_isSame 316 = .ok (.idiv, 1) := by decide +kernel
theorem dL_isSame_317 : decode cL_isSame 317 = .ok (.if_icmp .ne 27, 3) := by decide +kernel
theorem dL_isSame_320 : decode cL_isSame 320 = .ok (.aload_n 0, 1) := by decide +kernel
theorem dL_isSame_321 : decode cL_isSame 321 = .ok (.iload 11, 2) := by decide +kernel
theorem dL_isSame_323 : decode cL_isSame 323 = .ok (.invokevirtual 82, 3) := by decide +kernel
theorem dL_isSame_326 : decode cL_isSame 326 = .ok (.aload_n 1, 1) := by decide +kernel
theorem dL_isSame_327 : decode cL_isSame 327 = .ok (.aload_n 3, 1) := by decide +kernel
theorem dL_isSame_328 : decode cL_isSame 328 = .ok (.aload 4, 2) := by decide +kernel
theorem dL_isSame_330 : decode cL_isSame 330 = .ok (.aload 6, 2) := by decide +kernel
theorem dL_isSame_332 : decode cL_isSame 332 = .ok (.iload 11, 2) := by decide +kernel
theorem dL_isSame_334 : decode cL_isSame 334 = .ok (.invokestatic 85, 3) := by decide +kernel
theorem dL_isSame_337 : decode cL_isSame 337 = .ok (.if_icmp .ne 7, 3) := by decide +kernel
theorem dL_isSame_340 : decode cL_isSame 340 = .ok (.iconst 1, 1) := by decide +kernel
theorem dL_isSame_341 : decode cL_isSame 341 = .ok (.goto 4, 3) := by decide +kernel
theorem dL_isSame_344 : decode cL_isSame 344 = .ok (.iconst 0, 1) := by decide +kernel
theorem dL_isSame_345 : decode cL_isSame 345 = .ok (.istore 10, 2) := by decide +kernel
theorem dL_isSame_347 : decode cL_isSame 347 = .ok (.aload 6, 2) := by decide +kernel
theorem dL_isSame_349 : decode cL_isSame 349 = .ok (.bipush 7, 2) := by decide +kernel
theorem dL_isSame_351 : decode cL_isSame 351 = .ok (.iaload, 1) := by decide +kernel
theorem dL_isSame_352 : decode cL_isSame 352 = .ok (.ifCond .le 141, 3) := by decide +kernel
theorem dL_isSame_355 : decode cL_isSame 355 = .ok (.iload 10, 2) := by decide +kernel
theorem dL_isSame_357 : decode cL_isSame 357 = .ok (.ifCond .eq 136, 3) := by decide +kernel
theorem dL_isSame_360 : decode cL_isSame 360 = .ok (.aload 6, 2) := by decide +kernel
theorem dL_isSame_362 : decode cL_isSame 362 = .ok (.bipush 7, 2) := by decide +kernel
theorem dL_isSame_364 : decode cL_isSame 364 = .ok (.iaload, 1) := by decide +kernel
theorem dL_isSame_365 : decode cL_isSame 365 = .ok (.iconst 1, 1) := by decide +kernel
theorem dL_isSame_366 : decode cL_isSame 366 = .ok (.if_icmp .le 15, 3) := by decide +kernel
theorem dL_isSame_369 : decode cL_isSame 369 = .ok (.iload 9, 2) := by decide +kernel
theorem dL_isSame_371 : decode cL_isSame 371 = .ok (.iconst 2, 1) := by decide +kernel
theorem dL_isSame_372 : decode cL_isSame 372 = .ok (.irem, 1) := by decide +kernel
theorem dL_isSame_373 : decode cL_isSame 373 = .ok (.ifCond .ne 8, 3) := by decide +kernel
theorem dL_isSame_376 : decode cL_isSame 376 = .ok (.aload 8, 2) := by decide +kernel
theorem dL_isSame_378 : decode cL_isSame 378 = .ok (.goto 4, 3) := by decide +kernel
theorem dL_isSame_381 : decode cL_isSame 381 = .ok (.aload_n 3, 1) := by decide +kernel
theorem dL_isSame_382 : decode cL_isSame 382 = .ok (.astore 11, 2) := by decide +kernel
theorem dL_isSame_384 : decode cL_isSame 384 = .ok (.aload_n 0, 1) := by decide +kernel
theorem dL_isSame_385 : decode cL_isSame 385 = .ok (.iconst 0, 1) := by decide +kernel
theorem dL_isSame_386 : decode cL_isSame 386 = .ok (.aload 11, 2) := by decide +kernel
theorem dL_isSame_388 : decode cL_isSame 388 = .ok (.aload_n 3, 1) := by decide +kernel
theorem dL_isSame_389 : decode cL_isSame 389 = .ok (.if_acmp .ne 7, 3) := by decide +kernel
theorem dL_isSame_392 : decode cL_isSame 392 = .ok (.iconst (-1), 1) := by decide +kernel
theorem dL_isSame_393 : decode cL_isSame 393 = .ok (.goto 4, 3) := by decide +kernel
theorem dL_isSame_396 : decode cL_isSame 396 = .ok (.iconst 1, 1) := by decide +kernel
theorem dL_isSame_397 : decode cL_isSame 397 = .ok (.invokevirtual 88, 3) := by decide +kernel
theorem dL_isSame_400 : decode cL_isSame 400 = .ok (.aload 7, 2) := by decide +kernel
theorem dL_isSame_402 : decode cL_isSame 402 = .ok (.aload 11, 2) := by decide +kernel
theorem dL_isSame_404 : decode cL_isSame 404 = .ok (.invokestatic 91, 3) := by decide +kernel
theorem dL_isSame_407 : decode cL_isSame 407 = .ok (.if_icmp .ne 83, 3) := by decide +kernel
theorem dL_isSame_410 : decode cL_isSame 410 = .ok (.aload_n 0, 1) := by decide +kernel
theorem dL_isSame_411 : decode cL_isSame 411 = .ok (.iconst 0, 1) := by decide +kernel
theorem dL_isSame_412 : decode cL_isSame 412 = .ok (.invokevirtual 94, 3) := by decide +kernel
theorem dL_isSame_415 : decode cL_isSame 415 = .ok (.aload 6, 2) := by decide +kernel
theorem dL_isSame_417 : decode cL_isSame 417 = .ok (.bipush 7, 2) := by decide +kernel
theorem dL_isSame_419 : decode cL_isSame 419 = .ok (.iaload, 1) := by decide +kernel
theorem dL_isSame_420 : decode cL_isSame 420 = .ok (.iconst 1, 1) := by decide +kernel
