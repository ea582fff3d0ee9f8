theorem dX7_init_0 : decode cX7_init 0 = .ok (.aload_n 0, 1) := by decide +kernel
theorem dX7_init_1 : decode cX7_init 1 = .ok (.invokespecial 1, 3) := by decide +kernel
theorem dX7_init_4 : decode cX7_init 4 = .ok (.aload_n 0, 1) := by decide +kernel
theorem dX7_init_5 : decode cX7_init 5 = .ok (.bipush 40, 2) := by decide +kernel
theorem dX7_init_7 : decode cX7_init 7 = .ok (.newarray .int, 2) := by decide +kernel
theorem dX7_init_9 : decode cX7_init 9 = .ok (.putfield 7, 3) := by decide +kernel
theorem dX7_init_12 : decode cX7_init 12 = .ok (.aload_n 0, 1) := by decide +kernel
theorem dX7_init_13 : decode cX7_init 13 = .ok (.bipush 40, 2) := by decide +kernel
theorem dX7_init_15 : decode cX7_init 15 = .ok (.newarray .int, 2) := by decide +kernel
theorem dX7_init_17 : decode cX7_init 17 = .ok (.putfield 13, 3) := by decide +kernel
theorem dX7_init_20 : decode cX7_init 20 = .ok (.aload_n 0, 1) := by decide +kernel
theorem dX7_init_21 : decode cX7_init 21 = .ok (.bipush 40, 2) := by decide +kernel
theorem dX7_init_23 : decode cX7_init 23 = .ok (.newarray .int, 2) := by decide +kernel
theorem dX7_init_25 : decode cX7_init 25 = .ok (.putfield 16, 3) := by decide +kernel
theorem dX7_init_28 : decode cX7_init 28 = .ok (.aload_n 0, 1) := by decide +kernel
theorem dX7_init_29 : decode cX7_init 29 = .ok (.bipush 40, 2) := by decide +kernel
theorem dX7_init_31 : decode cX7_init 31 = .ok (.newarray .long, 2) := by decide +kernel
theorem dX7_init_33 : decode cX7_init 33 = .ok (.putfield 19, 3) := by decide +kernel
theorem dX7_init_36 : decode cX7_init 36 = .ok (.aload_n 0, 1) := by decide +kernel
theorem dX7_init_37 : decode cX7_init 37 = .ok (.sipush 216, 3) := by decide +kernel
theorem dX7_init_40 : decode cX7_init 40 = .ok (.newarray .int, 2) := by decide +kernel
theorem dX7_init_42 : decode cX7_init 42 = .ok (.putfield 23, 3) := by decide +kernel
theorem dX7_init_45 : decode cX7_init 45 = .ok (.aload_n 0, 1) := by decide +kernel
theorem dX7_init_46 : decode cX7_init 46 = .ok (.bipush 36, 2) := by decide +kernel
theorem dX7_init_48 : decode cX7_init 48 = .ok (.newarray .int, 2) := by decide +kernel
theorem dX7_init_50 : decode cX7_init 50 = .ok (.putfield 26, 3) := by decide +kernel
theorem dX7_init_53 : decode cX7_init 53 = .ok (.aload_n 0, 1) := by decide +kernel
theorem dX7_init_54 : decode cX7_init 54 = .ok (.bipush 36, 2) := by decide +kernel
theorem dX7_init_56 : decode cX7_init 56 = .ok (.newarray .int, 2) := by decide +kernel
theorem dX7_init_58 : decode cX7_init 58 = .ok (.putfield 29, 3) := by decide +kernel
theorem dX7_init_61 : decode cX7_init 61 = .ok (.aload_n 0, 1) := by decide +kernel
theorem dX7_init_62 : decode cX7_init 62 = .ok (.bipush 36, 2) := by decide +kernel
theorem dX7_init_64 : decode cX7_init 64 = .ok (.newarray .int, 2) := by decide +kernel
theorem dX7_init_66 : decode cX7_init 66 = .ok (.putfield 32, 3) := by decide +kernel
theorem dX7_init_69 : decode cX7_init 69 = .ok (.aload_n 0, 1) := by decide +kernel
theorem dX7_init_70 : decode cX7_init 70 = .ok (.bipush 36, 2) := by decide +kernel
theorem dX7_init_72 : decode cX7_init 72 = .ok (.newarray .boolean, 2) := by decide +kernel
theorem dX7_init_74 : decode cX7_init 74 = .ok (.putfield 35, 3) := by decide +kernel
theorem dX7_init_77 : decode cX7_init 77 = .ok (.aload_n 0, 1) := by decide +kernel
theorem dX7_init_78 : decode cX7_init 78 = .ok (.bipush 36, 2) := by decide +kernel
theorem dX7_init_80 : decode cX7_init 80 = .ok (.newarray .boolean, 2) := by decide +kernel
theorem dX7_init_82 : decode cX7_init 82 = .ok (.putfield 39, 3) := by decide +kernel
theorem dX7_init_85 : decode cX7_init 85 = .ok (.aload_n 0, 1) := by decide +kernel
theorem dX7_init_86 : decode cX7_init 86 = .ok (.sipush 144, 3) := by decide +kernel
theorem dX7_init_89 : decode cX7_init 89 = .ok (.newarray .int, 2) := by decide +kernel
theorem dX7_init_91 : decode cX7_init 91 = .ok (.putfield 42, 3) := by decide +kernel
theorem dX7_init_94 : decode cX7_init 94 = .ok (.aload_n 0, 1) := by decide +kernel
theorem dX7_init_95 : decode cX7_init 95 = .ok (.bipush 6, 2) := by decide +kernel
theorem dX7_init_97 : decode cX7_init 97 = .ok (.newarray .int, 2) := by decide +kernel
theorem dX7_init_99 : decode cX7_init 99 = .ok (.putfield 45, 3) := by decide +kernel
theorem dX7_init_102 : decode cX7_init 102 = .ok (.aload_n 0, 1) := by decide +kernel
theorem dX7_init_103 : decode cX7_init 103 = .ok (.bipush 24, 2) := by decide +kernel
theorem dX7_init_105 : decode cX7_init 105 = .ok (.newarray .int, 2) := by decide +kernel
theorem dX7_init_107 : decode cX7_init 107 = .ok (.putfield 48, 3) := by decide +kernel
theorem dX7_init_110 : decode cX7_init 110 = .ok (.aload_n 0, 1) := by decide +kernel
theorem dX7_init_111 : decode cX7_init 111 = .ok (.iconst 4, 1) := by decide +kernel
theorem dX7_init_112 : decode cX7_init 112 = .ok (.newarray .int, 2) := by decide +kernel
theorem dX7_init_114 : decode cX7_init 114 = .ok (.putfield 51, 3) := by decide +kernel
theorem dX7_init_117 : decode cX7_init 117 = .ok (.aload_n 0, 1) := by decide +kernel
theorem dX7_init_118 : decode cX7_init 118 = .ok (.iconst 4, 1) := by decide +kernel
theorem dX7_init_119 : decode cX7_init 119 = .ok (.newarray .int, 2) := by decide +kernel
theorem dX7_init_121 : decode cX7_init 121 = .ok (.putfield 54, 3) := by decide +kernel
theorem dX7_init_124 : decode cX7_init 124 = .ok (.aload_n 0, 1) := by decide +kernel
theorem dX7_init_125 : decode cX7_init 125 = .ok (.iconst (-1), 1) := by decide +kernel
theorem dX7_init_126 : decode cX7_init 126 = .ok (.putfield 57, 3) := by decide +kernel
theorem dX7_init_129 : decode cX7_init 129 = .ok (.aload_n 0, 1) := by decide +kernel
theorem dX7_init_130 : decode cX7_init 130 = .ok (.sipush 1728, 3) := by decide +kernel
theorem dX7_init_133 : decode cX7_init 133 = .ok (.newarray .int, 2) := by decide +kernel
theorem dX7_init_135 : decode cX7_init 135 = .ok (.putfield 61, 3) := by decide +kernel
theorem dX7_init_138 : decode cX7_init 138 = .ok (.aload_n 0, 1) := by decide +kernel
theorem dX7_init_139 : decode cX7_init 139 = .ok (.sipush 288, 3) := by decide +kernel
theorem dX7_init_142 : decode cX7_init 142 = .ok (.newarray .int, 2) := by decide +kernel
theorem dX7_init_144 : decode cX7_init 144 = .ok (.putfield 64, 3) := by decide +kernel
theorem dX7_init_147 : decode cX7_init 147 = .ok (.aload_n 0, 1) := by decide +kernel
theorem dX7_init_148 : decode cX7_init 148 = .ok (.bipush 8, 2) := by decide +kernel
theorem dX7_init_150 : decode cX7_init 150 = .ok (.newarray .int, 2) := by decide +kernel
theorem dX7_init_152 : decode cX7_init 152 = .ok (.putfield 67, 3) := by decide +kernel
theorem dX7_init_155 : decode cX7_init 155 = .ok (.aload_n 0, 1) := by decide +kernel
theorem dX7_init_156 : decode cX7_init 156 = .ok (.bipush 6, 2) := by decide +kernel
theorem dX7_init_158 : decode cX7_init 158 = .ok (.newarray .int, 2) := by decide +kernel
theorem dX7_init_160 : decode cX7_init 160 = .ok (.putfield 70, 3) := by decide +kernel
theorem dX7_init_163 : decode cX7_init 163 = .ok (.return_, 1) := by decide +kernel
theorem dX7_thrown_0 : decode cX7_thrown 0 = .ok (.aload_n 0, 1) := by decide +kernel
theorem dX7_thrown_1 : decode cX7_thrown 1 = .ok (.getfield 73, 3) := by decide +kernel
theorem dX7_thrown_4 : decode cX7_thrown 4 = .ok (.ireturn, 1) := by decide +kernel
theorem dX7_in_0 : decode cX7_in 0 = .ok (.iload_n 0, 1) := by decide +kernel
theorem dX7_in_1 : decode cX7_in 1 = .ok (.iload_n 1, 1) := by decide +kernel
theorem dX7_in_2 : decode cX7_in 2 = .ok (.if_icmp .lt 12, 3) := by decide +kernel
theorem dX7_in_5 : decode cX7_in 5 = .ok (.iload_n 0, 1) := by decide +kernel
theorem dX7_in_6 : decode cX7_in 6 = .ok (.iload_n 2, 1) := by decide +kernel
theorem dX7_in_7 : decode cX7_in 7 = .ok (.if_icmp .gt 7, 3) := by decide +kernel
theorem dX7_in_10 : decode cX7_in 10 = .ok (.iconst 1, 1) := by decide +kernel
theorem dX7_in_11 : decode cX7_in 11 = .ok (.goto 4, 3) := by decide +kernel
theorem dX7_in_14 : decode cX7_in 14 = .ok (.iconst 0, 1) := by decide +kernel
theorem dX7_in_15 : decode cX7_in 15 = .ok (.ireturn, 1) := by decide +kernel
theorem dX7_goes_0 : decode cX7_goes 0 = .ok (.aload_n 0, 1) := by decide +kernel
theorem dX7_goes_1 : decode cX7_goes 1 = .ok (.iload_n 1, 1) := by decide +kernel
theorem dX7_goes_2 : decode cX7_goes 2 = .ok (.ifCond .ne 7, 3) := by decide +kernel
theorem dX7_goes_5 : decode cX7_goes 5 = .ok (.iconst 1, 1) := by decide +kernel
theorem dX7_goes_6 : decode cX7_goes 6 = .ok (.goto 20, 3) := by decide +kernel
theorem dX7_goes_9 : decode cX7_goes 9 = .ok (.iload_n 2, 1) := by decide +kernel
theorem dX7_goes_10 : decode cX7_goes 10 = .ok (.ifCond .ne 7, 3) := by decide +kernel
theorem dX7_goes_13 : decode cX7_goes 13 = .ok (.iconst 2, 1) := by decide +kernel
theorem dX7_goes_14 : decode cX7_goes 14 = .ok (.goto 12, 3) := by decide +kernel
theorem dX7_goes_17 : decode cX7_goes 17 = .ok (.iload_n 3, 1) := by decide +kernel
theorem dX7_goes_18 : decode cX7_goes 18 = .ok (.ifCond .eq 7, 3) := by decide +kernel
theorem dX7_goes_21 : decode cX7_goes 21 = .ok (.iconst 0, 1) := by decide +kernel
theorem dX7_goes_22 : decode cX7_goes 22 = .ok (.goto 4, 3) := by decide +kernel
theorem dX7_goes_25 : decode cX7_goes 25 = .ok (.iconst 3, 1) := by decide +kernel
theorem dX7_goes_26 : decode cX7_goes 26 = .ok (.putfield 73, 3) := by decide +kernel
theorem dX7_goes_29 : decode cX7_goes 29 = .ok (.aload_n 0, 1) := by decide +kernel
theorem dX7_goes_30 : decode cX7_goes 30 = .ok (.getfield 73, 3) := by decide +kernel
theorem dX7_goes_33 : decode cX7_goes 33 = .ok (.ifCond .ne 7, 3) := by decide +kernel
theorem dX7_goes_36 : decode cX7_goes 36 = .ok (.iconst 1, 1) := by decide +kernel
theorem dX7_goes_37 : decode cX7_goes 37 = .ok (.goto 4, 3) := by decide +kernel
theorem dX7_goes_40 : decode cX7_goes 40 = .ok (.iconst 0, 1) := by decide +kernel
theorem dX7_goes_41 : decode cX7_goes 41 = .ok (.ireturn, 1) := by decide +kernel
theorem dX7_isWord_0 : decode cX7_isWord 0 = .ok (.iload_n 1, 1) := by decide +kernel
theorem dX7_isWord_1 : decode cX7_isWord 1 = .ok (.iconst 0, 1) := by decide +kernel
theorem dX7_isWord_2 : decode cX7_isWord 2 = .ok (.aload_n 0, 1) := by decide +kernel
theorem dX7_isWord_3 : decode cX7_isWord 3 = .ok (.getfield 76, 3) := by decide +kernel
theorem dX7_isWord_6 : decode cX7_isWord 6 = .ok (.iconst 1, 1) := by decide +kernel
theorem dX7_isWord_7 : decode cX7_isWord 7 = .ok (.isub, 1) := by decide +kernel
theorem dX7_isWord_8 : decode cX7_isWord 8 = .ok (.invokestatic 79, 3) := by decide +kernel
theorem dX7_isWord_11 : decode cX7_isWord 11 = .ok (.ireturn, 1) := by decide +kernel
theorem dX7_isPoet_0 : decode cX7_isPoet 0 = .ok (.iload_n 1, 1) := by decide +kernel
theorem dX7_isPoet_1 : decode cX7_isPoet 1 = .ok (.iconst 0, 1) := by decide +kernel
theorem dX7_isPoet_2 : decode cX7_isPoet 2 = .ok (.aload_n 0, 1) := by decide +kernel
theorem dX7_isPoet_3 : decode cX7_isPoet 3 = .ok (.getfield 83, 3) := by decide +kernel
theorem dX7_isPoet_6 : decode cX7_isPoet 6 = .ok (.iconst 1, 1) := by decide +kernel
theorem dX7_isPoet_7 : decode cX7_isPoet 7 = .ok (.isub, 1) := by decide +kernel
theorem dX7_isPoet_8 : decode cX7_isPoet 8 = .ok (.invokestatic 79, 3) := by decide +kernel
theorem dX7_isPoet_11 : decode cX7_isPoet 11 = .ok (.ireturn, 1) := by decide +kernel
theorem dX7_isLink_0 : decode cX7_isLink 0 = .ok (.iload_n 1, 1) := by decide +kernel
theorem dX7_isLink_1 : decode cX7_isLink 1 = .ok (.iconst 0, 1) := by decide +kernel
theorem dX7_isLink_2 : decode cX7_isLink 2 = .ok (.aload_n 0, 1) := by decide +kernel
theorem dX7_isLink_3 : decode cX7_isLink 3 = .ok (.getfield 86, 3) := by decide +kernel
theorem dX7_isLink_6 : decode cX7_isLink 6 = .ok (.iconst 1, 1) := by decide +kernel
theorem dX7_isLink_7 : decode cX7_isLink 7 = .ok (.isub, 1) := by decide +kernel
theorem dX7_isLink_8 : decode cX7_isLink 8 = .ok (.invokestatic 79, 3) := by decide +kernel
theorem dX7_isLink_11 : decode cX7_isLink 11 = .ok (.ireturn, 1) := by decide +kernel
theorem dX7_isFinished_0 : decode cX7_isFinished 0 = .ok (.aload_n 0, 1) := by decide +kernel
theorem dX7_isFinished_1 : decode cX7_isFinished 1 = .ok (.getfield 86, 3) := by decide +kernel
theorem dX7_isFinished_4 : decode cX7_isFinished 4 = .ok (.aload_n 0, 1) := by decide +kernel
theorem dX7_isFinished_5 : decode cX7_isFinished 5 = .ok (.getfield 89, 3) := by decide +kernel
theorem dX7_isFinished_8 : decode cX7_isFinished 8 = .ok (.if_icmp .ne 7, 3) := by decide +kernel
theorem dX7_isFinished_11 : decode cX7_isFinished 11 = .ok (.iconst 1, 1) := by decide +kernel
theorem dX7_isFinished_12 : decode cX7_isFinished 12 = .ok (.goto 4, 3) := by decide +kernel
theorem dX7_isFinished_15 : decode cX7_isFinished 15 = .ok (.iconst 0, 1) := by decide +kernel
theorem dX7_isFinished_16 : decode cX7_isFinished 16 = .ok (.ireturn, 1) := by decide +kernel
theorem dX7_word_0 : decode cX7_word 0 = .ok (.aload_n 0, 1) := by decide +kernel
theorem dX7_word_1 : decode cX7_word 1 = .ok (.iload_n 1, 1) := by decide +kernel
theorem dX7_word_2 : decode cX7_word 2 = .ok (.iconst 1, 1) := by decide +kernel
theorem dX7_word_3 : decode cX7_word 3 = .ok (.bipush 12, 2) := by decide +kernel
theorem dX7_word_5 : decode cX7_word 5 = .ok (.invokestatic 79, 3) := by decide +kernel
theorem dX7_word_8 : decode cX7_word 8 = .ok (.ifCond .eq 27, 3) := by decide +kernel
theorem dX7_word_11 : decode cX7_word 11 = .ok (.iload_n 2, 1) := by decide +kernel
theorem dX7_word_12 : decode cX7_word 12 = .ok (.iconst (-1), 1) := by decide +kernel
theorem dX7_word_13 : decode cX7_word 13 = .ok (.iconst 3, 1) := by decide +kernel
theorem dX7_word_14 : decode cX7_word 14 = .ok (.invokestatic 79, 3) := by decide +kernel
theorem dX7_word_17 : decode cX7_word 17 = .ok (.ifCond .eq 18, 3) := by decide +kernel
theorem dX7_word_20 : decode cX7_word 20 = .ok (.iload_n 3, 1) := by decide +kernel
theorem dX7_word_21 : decode cX7_word 21 = .ok (.iconst 0, 1) := by decide +kernel
theorem dX7_word_22 : decode cX7_word 22 = .ok (.sipush 1023, 3) := by decide +kernel
theorem dX7_word_25 : decode cX7_word 25 = .ok (.invokestatic 79, 3) := by decide +kernel
theorem dX7_word_28 : decode cX7_word 28 = .ok (.ifCond .eq 7, 3) := by decide +kernel
theorem dX7_word_31 : decode cX7_word 31 = .ok (.iconst 1, 1) := by decide +kernel
theorem dX7_word_32 : decode cX7_word 32 = .ok (.goto 4, 3) := by decide +kernel
theorem dX7_word_35 : decode cX7_word 35 = .ok (.iconst 0, 1) := by decide +kernel
theorem dX7_word_36 : decode cX7_word 36 = .ok (.aload_n 0, 1) := by decide +kernel
theorem dX7_word_37 : decode cX7_word 37 = .ok (.getfield 76, 3) := by decide +kernel
theorem dX7_word_40 : decode cX7_word 40 = .ok (.bipush 40, 2) := by decide +kernel
theorem dX7_word_42 : decode cX7_word 42 = .ok (.if_icmp .ge 7, 3) := by decide +kernel
theorem dX7_word_45 : decode cX7_word 45 = .ok (.iconst 1, 1) := by decide +kernel
theorem dX7_word_46 : decode cX7_word 46 = .ok (.goto 4, 3) := by decide +kernel
theorem dX7_word_49 : decode cX7_word 49 = .ok (.iconst 0, 1) := by decide +kernel
theorem dX7_word_50 : decode cX7_word 50 = .ok (.iconst 1, 1) := by decide +kernel
theorem dX7_word_51 : decode cX7_word 51 = .ok (.invokevirtual 92, 3) := by decide +kernel
theorem dX7_word_54 : decode cX7_word 54 = .ok (.ifCond .ne 5, 3) := by decide +kernel
theorem dX7_word_57 : decode cX7_word 57 = .ok (.iconst 0, 1) := by decide +kernel
theorem dX7_word_58 : decode cX7_word 58 = .ok (.ireturn, 1) := by decide +kernel
theorem dX7_word_59 : decode cX7_word 59 = .ok (.aload_n 0, 1) := by decide +kernel
theorem dX7_word_60 : decode cX7_word 60 = .ok (.getfield 7, 3) := by decide +kernel
theorem dX7_word_63 : decode cX7_word 63 = .ok (.aload_n 0, 1) := by decide +kernel
theorem dX7_word_64 : decode cX7_word 64 = .ok (.getfield 76, 3) := by decide +kernel
theorem dX7_word_67 : decode cX7_word 67 = .ok (.iload_n 1, 1) := by decide +kernel
theorem dX7_word_68 : decode cX7_word 68 = .ok (.iastore, 1) := by decide +kernel
theorem dX7_word_69 : decode cX7_word 69 = .ok (.aload_n 0, 1) := by decide +kernel
theorem dX7_word_70 : decode cX7_word 70 = .ok (.getfield 13, 3) := by decide +kernel
theorem dX7_word_73 : decode cX7_word 73 = .ok (.aload_n 0, 1) := by decide +kernel
theorem dX7_word_74 : decode cX7_word 74 = .ok (.getfield 76, 3) := by decide +kernel
theorem dX7_word_77 : decode cX7_word 77 = .ok (.iload_n 2, 1) := by decide +kernel
theorem dX7_word_78 : decode cX7_word 78 = .ok (.iastore, 1) := by decide +kernel
theorem dX7_word_79 : decode cX7_word 79 = .ok (.aload_n 0, 1) := by decide +kernel
theorem dX7_word_80 : decode cX7_word 80 = .ok (.getfield 16, 3) := by decide +kernel
theorem dX7_word_83 : decode cX7_word 83 = .ok (.aload_n 0, 1) := by decide +kernel
theorem dX7_word_84 : decode cX7_word 84 = .ok (.getfield 76, 3) := by decide +kernel
theorem dX7_word_87 : decode cX7_word 87 = .ok (.iload_n 3, 1) := by decide +kernel
theorem dX7_word_88 : decode cX7_word 88 = .ok (.iastore, 1) := by decide +kernel
theorem dX7_word_89 : decode cX7_word 89 = .ok (.aload_n 0, 1) := by decide +kernel
theorem dX7_word_90 : decode cX7_word 90 = .ok (.dup, 1) := by decide +kernel
theorem dX7_word_91 : decode cX7_word 91 = .ok (.getfield 76, 3) := by decide +kernel
theorem dX7_word_94 : decode cX7_word 94 = .ok (.iconst 1, 1) := by decide +kernel
theorem dX7_word_95 : decode cX7_word 95 = .ok (.iadd, 1) := by decide +kernel
theorem dX7_word_96 : decode cX7_word 96 = .ok (.putfield 76, 3) := by decide +kernel
theorem dX7_word_99 : decode cX7_word 99 = .ok (.aload_n 0, 1) := by decide +kernel
theorem dX7_word_100 : decode cX7_word 100 = .ok (.getfield 76, 3) := by decide +kernel
theorem dX7_word_103 : decode cX7_word 103 = .ok (.iconst 1, 1) := by decide +kernel
theorem dX7_word_104 : decode cX7_word 104 = .ok (.isub, 1) := by decide +kernel
theorem dX7_word_105 : decode cX7_word 105 = .ok (.ireturn, 1) := by decide +kernel
theorem dX7_calls_0 : decode cX7_calls 0 = .ok (.aload_n 0, 1) := by decide +kernel
theorem dX7_calls_1 : decode cX7_calls 1 = .ok (.getfield 19, 3) := by decide +kernel
theorem dX7_calls_4 : decode cX7_calls 4 = .ok (.iload_n 1, 1) := by decide +kernel
theorem dX7_calls_5 : decode cX7_calls 5 = .ok (.laload, 1) := by decide +kernel
theorem dX7_calls_6 : decode cX7_calls 6 = .ok (.iload_n 2, 1) := by decide +kernel
theorem dX7_calls_7 : decode cX7_calls 7 = .ok (.lshr, 1) := by decide +kernel
theorem dX7_calls_8 : decode cX7_calls 8 = .ok (.lconst 1, 1) := by decide +kernel
theorem dX7_calls_9 : decode cX7_calls 9 = .ok (.land, 1) := by decide +kernel
theorem dX7_calls_10 : decode cX7_calls 10 = .ok (.lconst 1, 1) := by decide +kernel
theorem dX7_calls_11 : decode cX7_calls 11 = .ok (.lcmp, 1) := by decide +kernel
theorem dX7_calls_12 : decode cX7_calls 12 = .ok (.ifCond .ne 7, 3) := by decide +kernel
theorem dX7_calls_15 : decode cX7_calls 15 = .ok (.iconst 1, 1) := by decide +kernel
theorem dX7_calls_16 : decode cX7_calls 16 = .ok (.goto 4, 3) := by decide +kernel
theorem dX7_calls_19 : decode cX7_calls 19 = .ok (.iconst 0, 1) := by decide +kernel
theorem dX7_calls_20 : decode cX7_calls 20 = .ok (.ireturn, 1) := by decide +kernel
theorem dX7_call_0 : decode cX7_call 0 = .ok (.aload_n 0, 1) := by decide +kernel
theorem dX7_call_1 : decode cX7_call 1 = .ok (.aload_n 0, 1) := by decide +kernel
theorem dX7_call_2 : decode cX7_call 2 = .ok (.iload_n 1, 1) := by decide +kernel
theorem dX7_call_3 : decode cX7_call 3 = .ok (.invokevirtual 96, 3) := by decide +kernel
theorem dX7_call_6 : decode cX7_call 6 = .ok (.ifCond .eq 15, 3) := by decide +kernel
theorem dX7_call_9 : decode cX7_call 9 = .ok (.aload_n 0, 1) := by decide +kernel
theorem dX7_call_10 : decode cX7_call 10 = .ok (.iload_n 2, 1) := by decide +kernel
theorem dX7_call_11 : decode cX7_call 11 = .ok (.invokevirtual 96, 3) := by decide +kernel
theorem dX7_call_14 : decode cX7_call 14 = .ok (.ifCond .eq 7, 3) := by decide +kernel
theorem dX7_call_17 : decode cX7_call 17 = .ok (.iconst 1, 1) := by decide +kernel
theorem dX7_call_18 : decode cX7_call 18 = .ok (.goto 4, 3) := by decide +kernel
theorem dX7_call_21 : decode cX7_call 21 = .ok (.iconst 0, 1) := by decide +kernel
theorem dX7_call_22 : decode cX7_call 22 = .ok (.iload_n 1, 1) := by decide +kernel
theorem dX7_call_23 : decode cX7_call 23 = .ok (.iload_n 2, 1) := by decide +kernel
theorem dX7_call_24 : decode cX7_call 24 = .ok (.if_icmp .eq 7, 3) := by decide +kernel
theorem dX7_call_27 : decode cX7_call 27 = .ok (.iconst 1, 1) := by decide +kernel
theorem dX7_call_28 : decode cX7_call 28 = .ok (.goto 4, 3) := by decide +kernel
theorem dX7_call_31 : decode cX7_call 31 = .ok (.iconst 0, 1) := by decide +kernel
theorem dX7_call_32 : decode cX7_call 32 = .ok (.iconst 1, 1) := by decide +kernel
theorem dX7_call_33 : decode cX7_call 33 = .ok (.invokevirtual 92, 3) := by decide +kernel
theorem dX7_call_36 : decode cX7_call 36 = .ok (.ifCond .ne 5, 3) := by decide +kernel
theorem dX7_call_39 : decode cX7_call 39 = .ok (.iconst 0, 1) := by decide +kernel
theorem dX7_call_40 : decode cX7_call 40 = .ok (.ireturn, 1) := by decide +kernel
theorem dX7_call_41 : decode cX7_call 41 = .ok (.aload_n 0, 1) := by decide +kernel
theorem dX7_call_42 : decode cX7_call 42 = .ok (.iload_n 1, 1) := by decide +kernel
theorem dX7_call_43 : decode cX7_call 43 = .ok (.iload_n 2, 1) := by decide +kernel
theorem dX7_call_44 : decode cX7_call 44 = .ok (.invokevirtual 100, 3) := by decide +kernel
theorem dX7_call_47 : decode cX7_call 47 = .ok (.istore_n 3, 1) := by decide +kernel
theorem dX7_call_48 : decode cX7_call 48 = .ok (.aload_n 0, 1) := by decide +kernel
theorem dX7_call_49 : decode cX7_call 49 = .ok (.getfield 19, 3) := by decide +kernel
theorem dX7_call_52 : decode cX7_call 52 = .ok (.iload_n 1, 1) := by decide +kernel
theorem dX7_call_53 : decode cX7_call 53 = .ok (.dup2, 1) := by decide +kernel
theorem dX7_call_54 : decode cX7_call 54 = .ok (.laload, 1) := by decide +kernel
theorem dX7_call_55 : decode cX7_call 55 = .ok (.lconst 1, 1) := by decide +kernel
theorem dX7_call_56 : decode cX7_call 56 = .ok (.iload_n 2, 1) := by decide +kernel
theorem dX7_call_57 : decode cX7_call 57 = .ok (.lshl, 1) := by decide +kernel
theorem dX7_call_58 : decode cX7_call 58 = .ok (.lor, 1) := by decide +kernel
theorem dX7_call_59 : decode cX7_call 59 = .ok (.lastore, 1) := by decide +kernel
theorem dX7_call_60 : decode cX7_call 60 = .ok (.aload_n 0, 1) := by decide +kernel
theorem dX7_call_61 : decode cX7_call 61 = .ok (.getfield 19, 3) := by decide +kernel
theorem dX7_call_64 : decode cX7_call 64 = .ok (.iload_n 2, 1) := by decide +kernel
theorem dX7_call_65 : decode cX7_call 65 = .ok (.dup2, 1) := by decide +kernel
theorem dX7_call_66 : decode cX7_call 66 = .ok (.laload, 1) := by decide +kernel
theorem dX7_call_67 : decode cX7_call 67 = .ok (.lconst 1, 1) := by decide +kernel
theorem dX7_call_68 : decode cX7_call 68 = .ok (.iload_n 1, 1) := by decide +kernel
theorem dX7_call_69 : decode cX7_call 69 = .ok (.lshl, 1) := by decide +kernel
theorem dX7_call_70 : decode cX7_call 70 = .ok (.lor, 1) := by decide +kernel
theorem dX7_call_71 : decode cX7_call 71 = .ok (.lastore, 1) := by decide +kernel
theorem dX7_call_72 : decode cX7_call 72 = .ok (.iload_n 3, 1) := by decide +kernel
theorem dX7_call_73 : decode cX7_call 73 = .ok (.ireturn, 1) := by decide +kernel
theorem dX7_poet_0 : decode cX7_poet 0 = .ok (.aload_n 0, 1) := by decide +kernel
theorem dX7_poet_1 : decode cX7_poet 1 = .ok (.aload_n 0, 1) := by decide +kernel
theorem dX7_poet_2 : decode cX7_poet 2 = .ok (.getfield 83, 3) := by decide +kernel
theorem dX7_poet_5 : decode cX7_poet 5 = .ok (.bipush 6, 2) := by decide +kernel
theorem dX7_poet_7 : decode cX7_poet 7 = .ok (.if_icmp .ge 7, 3) := by decide +kernel
theorem dX7_poet_10 : decode cX7_poet 10 = .ok (.iconst 1, 1) := by decide +kernel
theorem dX7_poet_11 : decode cX7_poet 11 = .ok (.goto 4, 3) := by decide +kernel
theorem dX7_poet_14 : decode cX7_poet 14 = .ok (.iconst 0, 1) := by decide +kernel
theorem dX7_poet_15 : decode cX7_poet 15 = .ok (.iconst 1, 1) := by decide +kernel
theorem dX7_poet_16 : decode cX7_poet 16 = .ok (.iconst 1, 1) := by decide +kernel
theorem dX7_poet_17 : decode cX7_poet 17 = .ok (.invokevirtual 92, 3) := by decide +kernel
theorem dX7_poet_20 : decode cX7_poet 20 = .ok (.ifCond .ne 5, 3) := by decide +kernel
theorem dX7_poet_23 : decode cX7_poet 23 = .ok (.iconst 0, 1) := by decide +kernel
theorem dX7_poet_24 : decode cX7_poet 24 = .ok (.ireturn, 1) := by decide +kernel
theorem dX7_poet_25 : decode cX7_poet 25 = .ok (.aload_n 0, 1) := by decide +kernel
theorem dX7_poet_26 : decode cX7_poet 26 = .ok (.dup, 1) := by decide +kernel
theorem dX7_poet_27 : decode cX7_poet 27 = .ok (.getfield 83, 3) := by decide +kernel
theorem dX7_poet_30 : decode cX7_poet 30 = .ok (.iconst 1, 1) := by decide +kernel
theorem dX7_poet_31 : decode cX7_poet 31 = .ok (.iadd, 1) := by decide +kernel
theorem dX7_poet_32 : decode cX7_poet 32 = .ok (.putfield 83, 3) := by decide +kernel
theorem dX7_poet_35 : decode cX7_poet 35 = .ok (.aload_n 0, 1) := by decide +kernel
theorem dX7_poet_36 : decode cX7_poet 36 = .ok (.getfield 83, 3) := by decide +kernel
theorem dX7_poet_39 : decode cX7_poet 39 = .ok (.iconst 1, 1) := by decide +kernel
theorem dX7_poet_40 : decode cX7_poet 40 = .ok (.isub, 1) := by decide +kernel
theorem dX7_poet_41 : decode cX7_poet 41 = .ok (.ireturn, 1) := by decide +kernel
theorem dX7_begin_0 : decode cX7_begin 0 = .ok (.iload_n 1, 1) := by decide +kernel
theorem dX7_begin_1 : decode cX7_begin 1 = .ok (.iconst 2, 1) := by decide +kernel
theorem dX7_begin_2 : decode cX7_begin 2 = .ok (.bipush 36, 2) := by decide +kernel
theorem dX7_begin_4 : decode cX7_begin 4 = .ok (.invokestatic 79, 3) := by decide +kernel
theorem dX7_begin_7 : decode cX7_begin 7 = .ok (.ifCond .eq 38, 3) := by decide +kernel
theorem dX7_begin_10 : decode cX7_begin 10 = .ok (.iload_n 2, 1) := by decide +kernel
theorem dX7_begin_11 : decode cX7_begin 11 = .ok (.iconst 0, 1) := by decide +kernel
theorem dX7_begin_12 : decode cX7_begin 12 = .ok (.bipush 10, 2) := by decide +kernel
theorem dX7_begin_14 : decode cX7_begin 14 = .ok (.invokestatic 79, 3) := by decide +kernel
theorem dX7_begin_17 : decode cX7_begin 17 = .ok (.ifCond .eq 28, 3) := by decide +kernel
theorem dX7_begin_20 : decode cX7_begin 20 = .ok (.iload_n 3, 1) := by decide +kernel
theorem dX7_begin_21 : decode cX7_begin 21 = .ok (.iconst 2, 1) := by decide +kernel
theorem dX7_begin_22 : decode cX7_begin 22 = .ok (.bipush 40, 2) := by decide +kernel
theorem dX7_begin_24 : decode cX7_begin 24 = .ok (.invokestatic 79, 3) := by decide +kernel
theorem dX7_begin_27 : decode cX7_begin 27 = .ok (.ifCond .eq 18, 3) := by decide +kernel
theorem dX7_begin_30 : decode cX7_begin 30 = .ok (.iload 4, 2) := by decide +kernel
theorem dX7_begin_32 : decode cX7_begin 32 = .ok (.iconst 2, 1) := by decide +kernel
theorem dX7_begin_33 : decode cX7_begin 33 = .ok (.bipush 40, 2) := by decide +kernel
theorem dX7_begin_35 : decode cX7_begin 35 = .ok (.invokestatic 79, 3) := by decide +kernel
theorem dX7_begin_38 : decode cX7_begin 38 = .ok (.ifCond .eq 7, 3) := by decide +kernel
theorem dX7_begin_41 : decode cX7_begin 41 = .ok (.iconst 1, 1) := by decide +kernel
theorem dX7_begin_42 : decode cX7_begin 42 = .ok (.goto 4, 3) := by decide +kernel
theorem dX7_begin_45 : decode cX7_begin 45 = .ok (.iconst 0, 1) := by decide +kernel
theorem dX7_begin_46 : decode cX7_begin 46 = .ok (.istore 5, 2) := by decide +kernel
theorem dX7_begin_48 : decode cX7_begin 48 = .ok (.aload_n 0, 1) := by decide +kernel
theorem dX7_begin_49 : decode cX7_begin 49 = .ok (.iload 5, 2) := by decide +kernel
theorem dX7_begin_51 : decode cX7_begin 51 = .ok (.aload_n 0, 1) := by decide +kernel
theorem dX7_begin_52 : decode cX7_begin 52 = .ok (.getfield 103, 3) := by decide +kernel
theorem dX7_begin_55 : decode cX7_begin 55 = .ok (.ifCond .eq 17, 3) := by decide +kernel
theorem dX7_begin_58 : decode cX7_begin 58 = .ok (.aload_n 0, 1) := by decide +kernel
theorem dX7_begin_59 : decode cX7_begin 59 = .ok (.getfield 86, 3) := by decide +kernel
theorem dX7_begin_62 : decode cX7_begin 62 = .ok (.ifCond .eq 10, 3) := by decide +kernel
theorem dX7_begin_65 : decode cX7_begin 65 = .ok (.aload_n 0, 1) := by decide +kernel
theorem dX7_begin_66 : decode cX7_begin 66 = .ok (.invokevirtual 107, 3) := by decide +kernel
theorem dX7_begin_69 : decode cX7_begin 69 = .ok (.ifCond .eq 7, 3) := by decide +kernel
theorem dX7_begin_72 : decode cX7_begin 72 = .ok (.iconst 1, 1) := by decide +kernel
theorem dX7_begin_73 : decode cX7_begin 73 = .ok (.goto 4, 3) := by decide +kernel
theorem dX7_begin_76 : decode cX7_begin 76 = .ok (.iconst 0, 1) := by decide +kernel
theorem dX7_begin_77 : decode cX7_begin 77 = .ok (.iconst 1, 1) := by decide +kernel
theorem dX7_begin_78 : decode cX7_begin 78 = .ok (.invokevirtual 92, 3) := by decide +kernel
theorem dX7_begin_81 : decode cX7_begin 81 = .ok (.ifCond .eq 109, 3) := by decide +kernel
theorem dX7_begin_84 : decode cX7_begin 84 = .ok (.aload_n 0, 1) := by decide +kernel
theorem dX7_begin_85 : decode cX7_begin 85 = .ok (.iconst 1, 1) := by decide +kernel
theorem dX7_begin_86 : decode cX7_begin 86 = .ok (.putfield 103, 3) := by decide +kernel
theorem dX7_begin_89 : decode cX7_begin 89 = .ok (.aload_n 0, 1) := by decide +kernel
theorem dX7_begin_90 : decode cX7_begin 90 = .ok (.iload_n 1, 1) := by decide +kernel
theorem dX7_begin_91 : decode cX7_begin 91 = .ok (.putfield 89, 3) := by decide +kernel
theorem dX7_begin_94 : decode cX7_begin 94 = .ok (.aload_n 0, 1) := by decide +kernel
theorem dX7_begin_95 : decode cX7_begin 95 = .ok (.iload_n 2, 1) := by decide +kernel
theorem dX7_begin_96 : decode cX7_begin 96 = .ok (.putfield 111, 3) := by decide +kernel
theorem dX7_begin_99 : decode cX7_begin 99 = .ok (.aload_n 0, 1) := by decide +kernel
theorem dX7_begin_100 : decode cX7_begin 100 = .ok (.iload_n 3, 1) := by decide +kernel
theorem dX7_begin_101 : decode cX7_begin 101 = .ok (.putfield 114, 3) := by decide +kernel
theorem dX7_begin_104 : decode cX7_begin 104 = .ok (.aload_n 0, 1) := by decide +kernel
theorem dX7_begin_105 : decode cX7_begin 105 = .ok (.iload 4, 2) := by decide +kernel
theorem dX7_begin_107 : decode cX7_begin 107 = .ok (.putfield 117, 3) := by decide +kernel
theorem dX7_begin_110 : decode cX7_begin 110 = .ok (.aload_n 0, 1) := by decide +kernel
theorem dX7_begin_111 : decode cX7_begin 111 = .ok (.iconst 0, 1) := by decide +kernel
theorem dX7_begin_112 : decode cX7_begin 112 = .ok (.putfield 86, 3) := by decide +kernel
theorem dX7_begin_115 : decode cX7_begin 115 = .ok (.aload_n 0, 1) := by decide +kernel
theorem dX7_begin_116 : decode cX7_begin 116 = .ok (.iconst 0, 1) := by decide +kernel
theorem dX7_begin_117 : decode cX7_begin 117 = .ok (.putfield 120, 3) := by decide +kernel
theorem dX7_begin_120 : decode cX7_begin 120 = .ok (.aload_n 0, 1) := by decide +kernel
theorem dX7_begin_121 : decode cX7_begin 121 = .ok (.iconst 0, 1) := by decide +kernel
theorem dX7_begin_122 : decode cX7_begin 122 = .ok (.putfield 123, 3) := by decide +kernel
theorem dX7_begin_125 : decode cX7_begin 125 = .ok (.iconst 0, 1) := by decide +kernel
theorem dX7_begin_126 : decode cX7_begin 126 = .ok (.istore 6, 2) := by decide +kernel
theorem dX7_begin_128 : decode cX7_begin 128 = .ok (.iload 6, 2) := by decide +kernel
theorem dX7_begin_130 : decode cX7_begin 130 = .ok (.bipush 36, 2) := by decide +kernel
theorem dX7_begin_132 : decode cX7_begin 132 = .ok (.if_icmp .ge 33, 3) := by decide +kernel
theorem dX7_begin_135 : decode cX7_begin 135 = .ok (.aload_n 0, 1) := by decide +kernel
theorem dX7_begin_136 : decode cX7_begin 136 = .ok (.getfield 32, 3) := by decide +kernel
theorem dX7_begin_139 : decode cX7_begin 139 = .ok (.iload 6, 2) := by decide +kernel
theorem dX7_begin_141 : decode cX7_begin 141 = .ok (.iconst 0, 1) := by decide +kernel
theorem dX7_begin_142 : decode cX7_begin 142 = .ok (.iastore, 1) := by decide +kernel
theorem dX7_begin_143 : decode cX7_begin 143 = .ok (.aload_n 0, 1) := by decide +kernel
theorem dX7_begin_144 : decode cX7_begin 144 = .ok (.getfield 35, 3) := by decide +kernel
theorem dX7_begin_147 : decode cX7_begin 147 = .ok (.iload 6, 2) := by decide +kernel
theorem dX7_begin_149 : decode cX7_begin 149 = .ok (.iconst 0, 1) := by decide +kernel
theorem dX7_begin_150 : decode cX7_begin 150 = .ok (.bastore, 1) := by decide +kernel
theorem dX7_begin_151 : decode cX7_begin 151 = .ok (.aload_n 0, 1) := by decide +kernel
theorem dX7_begin_152 : decode cX7_begin 152 = .ok (.getfield 39, 3) := by decide +kernel
theorem dX7_begin_155 : decode cX7_begin 155 = .ok (.iload 6, 2) := by decide +kernel
theorem dX7_begin_157 : decode cX7_begin 157 = .ok (.iconst 0, 1) := by decide +kernel
theorem dX7_begin_158 : decode cX7_begin 158 = .ok (.bastore, 1) := by decide +kernel
theorem dX7_begin_159 : decode cX7_begin 159 = .ok (.iinc 6 1, 3) := by decide +kernel
theorem dX7_begin_162 : decode cX7_begin 162 = .ok (.goto (-34), 3) := by decide +kernel
theorem dX7_begin_165 : decode cX7_begin 165 = .ok (.iconst 0, 1) := by decide +kernel
theorem dX7_begin_166 : decode cX7_begin 166 = .ok (.istore 6, 2) := by decide +kernel
theorem dX7_begin_168 : decode cX7_begin 168 = .ok (.iload 6, 2) := by decide +kernel
theorem dX7_begin_170 : decode cX7_begin 170 = .ok (.sipush 144, 3) := by decide +kernel
theorem dX7_begin_173 : decode cX7_begin 173 = .ok (.if_icmp .ge 17, 3) := by decide +kernel
theorem dX7_begin_176 : decode cX7_begin 176 = .ok (.aload_n 0, 1) := by decide +kernel
theorem dX7_begin_177 : decode cX7_begin 177 = .ok (.getfield 42, 3) := by decide +kernel
theorem dX7_begin_180 : decode cX7_begin 180 = .ok (.iload 6, 2) := by decide +kernel
theorem dX7_begin_182 : decode cX7_begin 182 = .ok (.iconst 0, 1) := by decide +kernel
theorem dX7_begin_183 : decode cX7_begin 183 = .ok (.iastore, 1) := by decide +kernel
theorem dX7_begin_184 : decode cX7_begin 184 = .ok (.iinc 6 1, 3) := by decide +kernel
theorem dX7_begin_187 : decode cX7_begin 187 = .ok (.goto (-19), 3) := by decide +kernel
theorem dX7_begin_190 : decode cX7_begin 190 = .ok (.return_, 1) := by decide +kernel
theorem dX7_seat_0 : decode cX7_seat 0 = .ok (.aload_n 0, 1) := by decide +kernel
theorem dX7_seat_1 : decode cX7_seat 1 = .ok (.aload_n 0, 1) := by decide +kernel
theorem dX7_seat_2 : decode cX7_seat 2 = .ok (.getfield 103, 3) := by decide +kernel
theorem dX7_seat_5 : decode cX7_seat 5 = .ok (.ifCond .eq 24, 3) := by decide +kernel
theorem dX7_seat_8 : decode cX7_seat 8 = .ok (.iload_n 1, 1) := by decide +kernel
theorem dX7_seat_9 : decode cX7_seat 9 = .ok (.aload_n 0, 1) := by decide +kernel
theorem dX7_seat_10 : decode cX7_seat 10 = .ok (.getfield 86, 3) := by decide +kernel
theorem dX7_seat_13 : decode cX7_seat 13 = .ok (.aload_n 0, 1) := by decide +kernel
theorem dX7_seat_14 : decode cX7_seat 14 = .ok (.getfield 89, 3) := by decide +kernel
theorem dX7_seat_17 : decode cX7_seat 17 = .ok (.iconst 1, 1) := by decide +kernel
theorem dX7_seat_18 : decode cX7_seat 18 = .ok (.isub, 1) := by decide +kernel
theorem dX7_seat_19 : decode cX7_seat 19 = .ok (.invokestatic 79, 3) := by decide +kernel
theorem dX7_seat_22 : decode cX7_seat 22 = .ok (.ifCond .eq 7, 3) := by decide +kernel
theorem dX7_seat_25 : decode cX7_seat 25 = .ok (.iconst 1, 1) := by decide +kernel
theorem dX7_seat_26 : decode cX7_seat 26 = .ok (.goto 4, 3) := by decide +kernel
theorem dX7_seat_29 : decode cX7_seat 29 = .ok (.iconst 0, 1) := by decide +kernel
theorem dX7_seat_30 : decode cX7_seat 30 = .ok (.iload_n 2, 1) := by decide +kernel
theorem dX7_seat_31 : decode cX7_seat 31 = .ok (.iconst 0, 1) := by decide +kernel
theorem dX7_seat_32 : decode cX7_seat 32 = .ok (.iconst 2, 1) := by decide +kernel
theorem dX7_seat_33 : decode cX7_seat 33 = .ok (.invokestatic 79, 3) := by decide +kernel
theorem dX7_seat_36 : decode cX7_seat 36 = .ok (.aload_n 0, 1) := by decide +kernel
theorem dX7_seat_37 : decode cX7_seat 37 = .ok (.getfield 120, 3) := by decide +kernel
theorem dX7_seat_40 : decode cX7_seat 40 = .ok (.ifCond .ne 7, 3) := by decide +kernel
theorem dX7_seat_43 : decode cX7_seat 43 = .ok (.iconst 1, 1) := by decide +kernel
theorem dX7_seat_44 : decode cX7_seat 44 = .ok (.goto 4, 3) := by decide +kernel
theorem dX7_seat_47 : decode cX7_seat 47 = .ok (.iconst 0, 1) := by decide +kernel
theorem dX7_seat_48 : decode cX7_seat 48 = .ok (.invokevirtual 92, 3) := by decide +kernel
theorem dX7_seat_51 : decode cX7_seat 51 = .ok (.ifCond .ne 5, 3) := by decide +kernel
theorem dX7_seat_54 : decode cX7_seat 54 = .ok (.iconst 0, 1) := by decide +kernel
theorem dX7_seat_55 : decode cX7_seat 55 = .ok (.ireturn, 1) := by decide +kernel
theorem dX7_seat_56 : decode cX7_seat 56 = .ok (.aload_n 0, 1) := by decide +kernel
theorem dX7_seat_57 : decode cX7_seat 57 = .ok (.getfield 32, 3) := by decide +kernel
theorem dX7_seat_60 : decode cX7_seat 60 = .ok (.iload_n 1, 1) := by decide +kernel
theorem dX7_seat_61 : decode cX7_seat 61 = .ok (.iaload, 1) := by decide +kernel
theorem dX7_seat_62 : decode cX7_seat 62 = .ok (.istore_n 3, 1) := by decide +kernel
theorem dX7_seat_63 : decode cX7_seat 63 = .ok (.aload_n 0, 1) := by decide +kernel
theorem dX7_seat_64 : decode cX7_seat 64 = .ok (.getfield 32, 3) := by decide +kernel
theorem dX7_seat_67 : decode cX7_seat 67 = .ok (.iload_n 1, 1) := by decide +kernel
theorem dX7_seat_68 : decode cX7_seat 68 = .ok (.iload_n 2, 1) := by decide +kernel
theorem dX7_seat_69 : decode cX7_seat 69 = .ok (.iastore, 1) := by decide +kernel
theorem dX7_seat_70 : decode cX7_seat 70 = .ok (.iload_n 3, 1) := by decide +kernel
theorem dX7_seat_71 : decode cX7_seat 71 = .ok (.ireturn, 1) := by decide +kernel
theorem dX7_add_0 : decode cX7_add 0 = .ok (.aload_n 0, 1) := by decide +kernel
theorem dX7_add_1 : decode cX7_add 1 = .ok (.aload_n 0, 1) := by decide +kernel
theorem dX7_add_2 : decode cX7_add 2 = .ok (.iload_n 1, 1) := by decide +kernel
theorem dX7_add_3 : decode cX7_add 3 = .ok (.invokevirtual 96, 3) := by decide +kernel
theorem dX7_add_6 : decode cX7_add 6 = .ok (.aload_n 0, 1) := by decide +kernel
theorem dX7_add_7 : decode cX7_add 7 = .ok (.getfield 126, 3) := by decide +kernel
theorem dX7_add_10 : decode cX7_add 10 = .ok (.bipush 6, 2) := by decide +kernel
theorem dX7_add_12 : decode cX7_add 12 = .ok (.if_icmp .ge 7, 3) := by decide +kernel
theorem dX7_add_15 : decode cX7_add 15 = .ok (.iconst 1, 1) := by decide +kernel
theorem dX7_add_16 : decode cX7_add 16 = .ok (.goto 4, 3) := by decide +kernel
theorem dX7_add_19 : decode cX7_add 19 = .ok (.iconst 0, 1) := by decide +kernel
theorem dX7_add_20 : decode cX7_add 20 = .ok (.iconst 1, 1) := by decide +kernel
theorem dX7_add_21 : decode cX7_add 21 = .ok (.invokevirtual 92, 3) := by decide +kernel
theorem dX7_add_24 : decode cX7_add 24 = .ok (.ifCond .ne 5, 3) := by decide +kernel
theorem dX7_add_27 : decode cX7_add 27 = .ok (.iconst 0, 1) := by decide +kernel
theorem dX7_add_28 : decode cX7_add 28 = .ok (.ireturn, 1) := by decide +kernel
theorem dX7_add_29 : decode cX7_add 29 = .ok (.aload_n 0, 1) := by decide +kernel
theorem dX7_add_30 : decode cX7_add 30 = .ok (.getfield 45, 3) := by decide +kernel
theorem dX7_add_33 : decode cX7_add 33 = .ok (.aload_n 0, 1) := by decide +kernel
theorem dX7_add_34 : decode cX7_add 34 = .ok (.getfield 126, 3) := by decide +kernel
theorem dX7_add_37 : decode cX7_add 37 = .ok (.iload_n 1, 1) := by decide +kernel
theorem dX7_add_38 : decode cX7_add 38 = .ok (.iastore, 1) := by decide +kernel
theorem dX7_add_39 : decode cX7_add 39 = .ok (.aload_n 0, 1) := by decide +kernel
theorem dX7_add_40 : decode cX7_add 40 = .ok (.dup, 1) := by decide +kernel
theorem dX7_add_41 : decode cX7_add 41 = .ok (.getfield 126, 3) := by decide +kernel
theorem dX7_add_44 : decode cX7_add 44 = .ok (.iconst 1, 1) := by decide +kernel
theorem dX7_add_45 : decode cX7_add 45 = .ok (.iadd, 1) := by decide +kernel
theorem dX7_add_46 : decode cX7_add 46 = .ok (.putfield 126, 3) := by decide +kernel
theorem dX7_add_49 : decode cX7_add 49 = .ok (.aload_n 0, 1) := by decide +kernel
theorem dX7_add_50 : decode cX7_add 50 = .ok (.getfield 126, 3) := by decide +kernel
theorem dX7_add_53 : decode cX7_add 53 = .ok (.ireturn, 1) := by decide +kernel
theorem dX7_clear_0 : decode cX7_clear 0 = .ok (.aload_n 0, 1) := by decide +kernel
theorem dX7_clear_1 : decode cX7_clear 1 = .ok (.iconst 0, 1) := by decide +kernel
theorem dX7_clear_2 : decode cX7_clear 2 = .ok (.putfield 73, 3) := by decide +kernel
theorem dX7_clear_5 : decode cX7_clear 5 = .ok (.aload_n 0, 1) := by decide +kernel
theorem dX7_clear_6 : decode cX7_clear 6 = .ok (.getfield 126, 3) := by decide +kernel
theorem dX7_clear_9 : decode cX7_clear 9 = .ok (.istore_n 1, 1) := by decide +kernel
theorem dX7_clear_10 : decode cX7_clear 10 = .ok (.aload_n 0, 1) := by decide +kernel
theorem dX7_clear_11 : decode cX7_clear 11 = .ok (.iconst 0, 1) := by decide +kernel
theorem dX7_clear_12 : decode cX7_clear 12 = .ok (.putfield 126, 3) := by decide +kernel
theorem dX7_clear_15 : decode cX7_clear 15 = .ok (.iload_n 1, 1) := by decide +kernel
theorem dX7_clear_16 : decode cX7_clear 16 = .ok (.ireturn, 1) := by decide +kernel
theorem dX7_seasonOf_0 : decode cX7_seasonOf 0 = .ok (.iconst 0, 1) := by decide +kernel
theorem dX7_seasonOf_1 : decode cX7_seasonOf 1 = .ok (.istore_n 2, 1) := by decide +kernel
theorem dX7_seasonOf_2 : decode cX7_seasonOf 2 = .ok (.iload_n 2, 1) := by decide +kernel
theorem dX7_seasonOf_3 : decode cX7_seasonOf 3 = .ok (.aload_n 0, 1) := by decide +kernel
theorem dX7_seasonOf_4 : decode cX7_seasonOf 4 = .ok (.getfield 26, 3) := by decide +kernel
theorem dX7_seasonOf_7 : decode cX7_seasonOf 7 = .ok (.iload_n 1, 1) := by decide +kernel
theorem dX7_seasonOf_8 : decode cX7_seasonOf 8 = .ok (.iaload, 1) := by decide +kernel
theorem dX7_seasonOf_9 : decode cX7_seasonOf 9 = .ok (.if_icmp .ge 46, 3) := by decide +kernel
theorem dX7_seasonOf_12 : decode cX7_seasonOf 12 = .ok (.aload_n 0, 1) := by decide +kernel
theorem dX7_seasonOf_13 : decode cX7_seasonOf 13 = .ok (.getfield 13, 3) := by decide +kernel
theorem dX7_seasonOf_16 : decode cX7_seasonOf 16 = .ok (.aload_n 0, 1) := by decide +kernel
theorem dX7_seasonOf_17 : decode cX7_seasonOf 17 = .ok (.getfield 23, 3) := by decide +kernel
theorem dX7_seasonOf_20 : decode cX7_seasonOf 20 = .ok (.bipush 6, 2) := by decide +kernel
theorem dX7_seasonOf_22 : decode cX7_seasonOf 22 = .ok (.iload_n 1, 1) := by decide +kernel
theorem dX7_seasonOf_23 : decode cX7_seasonOf 23 = .ok (.imul, 1) := by decide +kernel
theorem dX7_seasonOf_24 : decode cX7_seasonOf 24 = .ok (.iload_n 2, 1) := by decide +kernel
theorem dX7_seasonOf_25 : decode cX7_seasonOf 25 = .ok (.iadd, 1) := by decide +kernel
theorem dX7_seasonOf_26 : decode cX7_seasonOf 26 = .ok (.iaload, 1) := by decide +kernel
theorem dX7_seasonOf_27 : decode cX7_seasonOf 27 = .ok (.iaload, 1) := by decide +kernel
theorem dX7_seasonOf_28 : decode cX7_seasonOf 28 = .ok (.iconst (-1), 1) := by decide +kernel
theorem dX7_seasonOf_29 : decode cX7_seasonOf 29 = .ok (.if_icmp .eq 20, 3) := by decide +kernel
theorem dX7_seasonOf_32 : decode cX7_seasonOf 32 = .ok (.aload_n 0, 1) := by decide +kernel
theorem dX7_seasonOf_33 : decode cX7_seasonOf 33 = .ok (.getfield 13, 3) := by decide +kernel
theorem dX7_seasonOf_36 : decode cX7_seasonOf 36 = .ok (.aload_n 0, 1) := by decide +kernel
theorem dX7_seasonOf_37 : decode cX7_seasonOf 37 = .ok (.getfield 23, 3) := by decide +kernel
theorem dX7_seasonOf_40 : decode cX7_seasonOf 40 = .ok (.bipush 6, 2) := by decide +kernel
theorem dX7_seasonOf_42 : decode cX7_seasonOf 42 = .ok (.iload_n 1, 1) := by decide +kernel
theorem dX7_seasonOf_43 : decode cX7_seasonOf 43 = .ok (.imul, 1) := by decide +kernel
theorem dX7_seasonOf_44 : decode cX7_seasonOf 44 = .ok (.iload_n 2, 1) := by decide +kernel
theorem dX7_seasonOf_45 : decode cX7_seasonOf 45 = .ok (.iadd, 1) := by decide +kernel
theorem dX7_seasonOf_46 : decode cX7_seasonOf 46 = .ok (.iaload, 1) := by decide +kernel
theorem dX7_seasonOf_47 : decode cX7_seasonOf 47 = .ok (.iaload, 1) := by decide +kernel
theorem dX7_seasonOf_48 : decode cX7_seasonOf 48 = .ok (.ireturn, 1) := by decide +kernel
theorem dX7_seasonOf_49 : decode cX7_seasonOf 49 = .ok (.iinc 2 1, 3) := by decide +kernel
theorem dX7_seasonOf_52 : decode cX7_seasonOf 52 = .ok (.goto (-50), 3) := by decide +kernel
theorem dX7_seasonOf_55 : decode cX7_seasonOf 55 = .ok (.iconst (-1), 1) := by decide +kernel
theorem dX7_seasonOf_56 : decode cX7_seasonOf 56 = .ok (.ireturn, 1) := by decide +kernel
theorem dX7_signsOf_0 : decode cX7_signsOf 0 = .ok (.iconst 0, 1) := by decide +kernel
theorem dX7_signsOf_1 : decode cX7_signsOf 1 = .ok (.istore_n 2, 1) := by decide +kernel
theorem dX7_signsOf_2 : decode cX7_signsOf 2 = .ok (.iconst 0, 1) := by decide +kernel
theorem dX7_signsOf_3 : decode cX7_signsOf 3 = .ok (.istore_n 3, 1) := by decide +kernel
theorem dX7_signsOf_4 : decode cX7_signsOf 4 = .ok (.iload_n 3, 1) := by decide +kernel
theorem dX7_signsOf_5 : decode cX7_signsOf 5 = .ok (.aload_n 0, 1) := by decide +kernel
theorem dX7_signsOf_6 : decode cX7_signsOf 6 = .ok (.getfield 26, 3) := by decide +kernel
theorem dX7_signsOf_9 : decode cX7_signsOf 9 = .ok (.iload_n 1, 1) := by decide +kernel
theorem dX7_signsOf_10 : decode cX7_signsOf 10 = .ok (.iaload, 1) := by decide +kernel
theorem dX7_signsOf_11 : decode cX7_signsOf 11 = .ok (.if_icmp .ge 28, 3) := by decide +kernel
theorem dX7_signsOf_14 : decode cX7_signsOf 14 = .ok (.iload_n 2, 1) := by decide +kernel
theorem dX7_signsOf_15 : decode cX7_signsOf 15 = .ok (.aload_n 0, 1) := by decide +kernel
theorem dX7_signsOf_16 : decode cX7_signsOf 16 = .ok (.getfield 16, 3) := by decide +kernel
theorem dX7_signsOf_19 : decode cX7_signsOf 19 = .ok (.aload_n 0, 1) := by decide +kernel
theorem dX7_signsOf_20 : decode cX7_signsOf 20 = .ok (.getfield 23, 3) := by decide +kernel
theorem dX7_signsOf_23 : decode cX7_signsOf 23 = .ok (.bipush 6, 2) := by decide +kernel
theorem dX7_signsOf_25 : decode cX7_signsOf 25 = .ok (.iload_n 1, 1) := by decide +kernel
theorem dX7_signsOf_26 : decode cX7_signsOf 26 = .ok (.imul, 1) := by decide +kernel
theorem dX7_signsOf_27 : decode cX7_signsOf 27 = .ok (.iload_n 3, 1) := by decide +kernel
theorem dX7_signsOf_28 : decode cX7_signsOf 28 = .ok (.iadd, 1) := by decide +kernel
theorem dX7_signsOf_29 : decode cX7_signsOf 29 = .ok (.iaload, 1) := by decide +kernel
theorem dX7_signsOf_30 : decode cX7_signsOf 30 = .ok (.iaload, 1) := by decide +kernel
theorem dX7_signsOf_31 : decode cX7_signsOf 31 = .ok (.ior, 1) := by decide +kernel
theorem dX7_signsOf_32 : decode cX7_signsOf 32 = .ok (.istore_n 2, 1) := by decide +kernel
theorem dX7_signsOf_33 : decode cX7_signsOf 33 = .ok (.iinc 3 1, 3) := by decide +kernel
theorem dX7_signsOf_36 : decode cX7_signsOf 36 = .ok (.goto (-32), 3) := by decide +kernel
theorem dX7_signsOf_39 : decode cX7_signsOf 39 = .ok (.iload_n 2, 1) := by decide +kernel
theorem dX7_signsOf_40 : decode cX7_signsOf 40 = .ok (.ireturn, 1) := by decide +kernel
theorem dX7_runAt_0 : decode cX7_runAt 0 = .ok (.aload_n 0, 1) := by decide +kernel
theorem dX7_runAt_1 : decode cX7_runAt 1 = .ok (.iload_n 1, 1) := by decide +kernel
theorem dX7_runAt_2 : decode cX7_runAt 2 = .ok (.invokevirtual 129, 3) := by decide +kernel
theorem dX7_runAt_5 : decode cX7_runAt 5 = .ok (.istore_n 2, 1) := by decide +kernel
theorem dX7_runAt_6 : decode cX7_runAt 6 = .ok (.iconst 0, 1) := by decide +kernel
theorem dX7_runAt_7 : decode cX7_runAt 7 = .ok (.istore_n 3, 1) := by decide +kernel
theorem dX7_runAt_8 : decode cX7_runAt 8 = .ok (.iload_n 1, 1) := by decide +kernel
theorem dX7_runAt_9 : decode cX7_runAt 9 = .ok (.istore 4, 2) := by decide +kernel
theorem dX7_runAt_11 : decode cX7_runAt 11 = .ok (.iload 4, 2) := by decide +kernel
theorem dX7_runAt_13 : decode cX7_runAt 13 = .ok (.ifCond .lt 27, 3) := by decide +kernel
theorem dX7_runAt_16 : decode cX7_runAt 16 = .ok (.iload_n 2, 1) := by decide +kernel
theorem dX7_runAt_17 : decode cX7_runAt 17 = .ok (.iconst (-1), 1) := by decide +kernel
theorem dX7_runAt_18 : decode cX7_runAt 18 = .ok (.if_icmp .eq 22, 3) := by decide +kernel
theorem dX7_runAt_21 : decode cX7_runAt 21 = .ok (.aload_n 0, 1) := by decide +kernel
theorem dX7_runAt_22 : decode cX7_runAt 22 = .ok (.iload 4, 2) := by decide +kernel
theorem dX7_runAt_24 : decode cX7_runAt 24 = .ok (.invokevirtual 129, 3) := by decide +kernel
theorem dX7_runAt_27 : decode cX7_runAt 27 = .ok (.iload_n 2, 1) := by decide +kernel
theorem dX7_runAt_28 : decode cX7_runAt 28 = .ok (.if_icmp .ne 12, 3) := by decide +kernel
theorem dX7_runAt_31 : decode cX7_runAt 31 = .ok (.iinc 3 1, 3) := by decide +kernel
theorem dX7_runAt_34 : decode cX7_runAt 34 = .ok (.iinc 4 (-1), 3) := by decide +kernel
theorem dX7_runAt_37 : decode cX7_runAt 37 = .ok (.goto (-26), 3) := by decide +kernel
theorem dX7_runAt_40 : decode cX7_runAt 40 = .ok (.iload_n 3, 1) := by decide +kernel
theorem dX7_runAt_41 : decode cX7_runAt 41 = .ok (.ireturn, 1) := by decide +kernel
theorem dX7_soundsOfRow_0 : decode cX7_soundsOfRow 0 = .ok (.iconst 0, 1) := by decide +kernel
theorem dX7_soundsOfRow_1 : decode cX7_soundsOfRow 1 = .ok (.istore_n 1, 1) := by decide +kernel
theorem dX7_soundsOfRow_2 : decode cX7_soundsOfRow 2 = .ok (.iconst 0, 1) := by decide +kernel
theorem dX7_soundsOfRow_3 : decode cX7_soundsOfRow 3 = .ok (.istore_n 2, 1) := by decide +kernel
theorem dX7_soundsOfRow_4 : decode cX7_soundsOfRow 4 = .ok (.iload_n 2, 1) := by decide +kernel
theorem dX7_soundsOfRow_5 : decode cX7_soundsOfRow 5 = .ok (.aload_n 0, 1) := by decide +kernel
theorem dX7_soundsOfRow_6 : decode cX7_soundsOfRow 6 = .ok (.getfield 133, 3) := by decide +kernel
theorem dX7_soundsOfRow_9 : decode cX7_soundsOfRow 9 = .ok (.if_icmp .ge 23, 3) := by decide +kernel
theorem dX7_soundsOfRow_12 : decode cX7_soundsOfRow 12 = .ok (.iload_n 1, 1) := by decide +kernel
theorem dX7_soundsOfRow_13 : decode cX7_soundsOfRow 13 = .ok (.aload_n 0, 1) := by decide +kernel
theorem dX7_soundsOfRow_14 : decode cX7_soundsOfRow 14 = .ok (.getfield 7, 3) := by decide +kernel
theorem dX7_soundsOfRow_17 : decode cX7_soundsOfRow 17 = .ok (.aload_n 0, 1) := by decide +kernel
theorem dX7_soundsOfRow_18 : decode cX7_soundsOfRow 18 = .ok (.getfield 70, 3) := by decide +kernel
theorem dX7_soundsOfRow_21 : decode cX7_soundsOfRow 21 = .ok (.iload_n 2, 1) := by decide +kernel
theorem dX7_soundsOfRow_22 : decode cX7_soundsOfRow 22 = .ok (.iaload, 1) := by decide +kernel
theorem dX7_soundsOfRow_23 : decode cX7_soundsOfRow 23 = .ok (.iaload, 1) := by decide +kernel
theorem dX7_soundsOfRow_24 : decode cX7_soundsOfRow 24 = .ok (.iadd, 1) := by decide +kernel
theorem dX7_soundsOfRow_25 : decode cX7_soundsOfRow 25 = .ok (.istore_n 1, 1) := by decide +kernel
theorem dX7_soundsOfRow_26 : decode cX7_soundsOfRow 26 = .ok (.iinc 2 1, 3) := by decide +kernel
theorem dX7_soundsOfRow_29 : decode cX7_soundsOfRow 29 = .ok (.goto (-25), 3) := by decide +kernel
theorem dX7_soundsOfRow_32 : decode cX7_soundsOfRow 32 = .ok (.iload_n 1, 1) := by decide +kernel
theorem dX7_soundsOfRow_33 : decode cX7_soundsOfRow 33 = .ok (.ireturn, 1) := by decide +kernel
theorem dX7_seasonOfRow_0 : decode cX7_seasonOfRow 0 = .ok (.iconst (-1), 1) := by decide +kernel
theorem dX7_seasonOfRow_1 : decode cX7_seasonOfRow 1 = .ok (.istore_n 1, 1) := by decide +kernel
theorem dX7_seasonOfRow_2 : decode cX7_seasonOfRow 2 = .ok (.aload_n 0, 1) := by decide +kernel
theorem dX7_seasonOfRow_3 : decode cX7_seasonOfRow 3 = .ok (.getfield 133, 3) := by decide +kernel
theorem dX7_seasonOfRow_6 : decode cX7_seasonOfRow 6 = .ok (.iconst 1, 1) := by decide +kernel
theorem dX7_seasonOfRow_7 : decode cX7_seasonOfRow 7 = .ok (.isub, 1) := by decide +kernel
theorem dX7_seasonOfRow_8 : decode cX7_seasonOfRow 8 = .ok (.istore_n 2, 1) := by decide +kernel
theorem dX7_seasonOfRow_9 : decode cX7_seasonOfRow 9 = .ok (.iload_n 2, 1) := by decide +kernel
theorem dX7_seasonOfRow_10 : decode cX7_seasonOfRow 10 = .ok (.ifCond .lt 40, 3) := by decide +kernel
theorem dX7_seasonOfRow_13 : decode cX7_seasonOfRow 13 = .ok (.aload_n 0, 1) := by decide +kernel
theorem dX7_seasonOfRow_14 : decode cX7_seasonOfRow 14 = .ok (.getfield 13, 3) := by decide +kernel
theorem dX7_seasonOfRow_17 : decode cX7_seasonOfRow 17 = .ok (.aload_n 0, 1) := by decide +kernel
theorem dX7_seasonOfRow_18 : decode cX7_seasonOfRow 18 = .ok (.getfield 70, 3) := by decide +kernel
theorem dX7_seasonOfRow_21 : decode cX7_seasonOfRow 21 = .ok (.iload_n 2, 1) := by decide +kernel
theorem dX7_seasonOfRow_22 : decode cX7_seasonOfRow 22 = .ok (.iaload, 1) := by decide +kernel
theorem dX7_seasonOfRow_23 : decode cX7_seasonOfRow 23 = .ok (.iaload, 1) := by decide +kernel
theorem dX7_seasonOfRow_24 : decode cX7_seasonOfRow 24 = .ok (.iconst (-1), 1) := by decide +kernel
theorem dX7_seasonOfRow_25 : decode cX7_seasonOfRow 25 = .ok (.if_icmp .ne 7, 3) := by decide +kernel
theorem dX7_seasonOfRow_28 : decode cX7_seasonOfRow 28 = .ok (.iload_n 1, 1) := by decide +kernel
theorem dX7_seasonOfRow_29 : decode cX7_seasonOfRow 29 = .ok (.goto 14, 3) := by decide +kernel
theorem dX7_seasonOfRow_32 : decode cX7_seasonOfRow 32 = .ok (.aload_n 0, 1) := by decide +kernel
theorem dX7_seasonOfRow_33 : decode cX7_seasonOfRow 33 = .ok (.getfield 13, 3) := by decide +kernel
theorem dX7_seasonOfRow_36 : decode cX7_seasonOfRow 36 = .ok (.aload_n 0, 1) := by decide +kernel
theorem dX7_seasonOfRow_37 : decode cX7_seasonOfRow 37 = .ok (.getfield 70, 3) := by decide +kernel
theorem dX7_seasonOfRow_40 : decode cX7_seasonOfRow 40 = .ok (.iload_n 2, 1) := by decide +kernel
theorem dX7_seasonOfRow_41 : decode cX7_seasonOfRow 41 = .ok (.iaload, 1) := by decide +kernel
theorem dX7_seasonOfRow_42 : decode cX7_seasonOfRow 42 = .ok (.iaload, 1) := by decide +kernel
theorem dX7_seasonOfRow_43 : decode cX7_seasonOfRow 43 = .ok (.istore_n 1, 1) := by decide +kernel
theorem dX7_seasonOfRow_44 : decode cX7_seasonOfRow 44 = .ok (.iinc 2 (-1), 3) := by decide +kernel
theorem dX7_seasonOfRow_47 : decode cX7_seasonOfRow 47 = .ok (.goto (-38), 3) := by decide +kernel
theorem dX7_seasonOfRow_50 : decode cX7_seasonOfRow 50 = .ok (.iload_n 1, 1) := by decide +kernel
theorem dX7_seasonOfRow_51 : decode cX7_seasonOfRow 51 = .ok (.ireturn, 1) := by decide +kernel
theorem dX7_signsOfRow_0 : decode cX7_signsOfRow 0 = .ok (.iconst 0, 1) := by decide +kernel
theorem dX7_signsOfRow_1 : decode cX7_signsOfRow 1 = .ok (.istore_n 1, 1) := by decide +kernel
theorem dX7_signsOfRow_2 : decode cX7_signsOfRow 2 = .ok (.iconst 0, 1) := by decide +kernel
theorem dX7_signsOfRow_3 : decode cX7_signsOfRow 3 = .ok (.istore_n 2, 1) := by decide +kernel
theorem dX7_signsOfRow_4 : decode cX7_signsOfRow 4 = .ok (.iload_n 2, 1) := by decide +kernel
theorem dX7_signsOfRow_5 : decode cX7_signsOfRow 5 = .ok (.aload_n 0, 1) := by decide +kernel
theorem dX7_signsOfRow_6 : decode cX7_signsOfRow 6 = .ok (.getfield 133, 3) := by decide +kernel
theorem dX7_signsOfRow_9 : decode cX7_signsOfRow 9 = .ok (.if_icmp .ge 23, 3) := by decide +kernel
theorem dX7_signsOfRow_12 : decode cX7_signsOfRow 12 = .ok (.iload_n 1, 1) := by decide +kernel
theorem dX7_signsOfRow_13 : decode cX7_signsOfRow 13 = .ok (.aload_n 0, 1) := by decide +kernel
theorem dX7_signsOfRow_14 : decode cX7_signsOfRow 14 = .ok (.getfield 16, 3) := by decide +kernel
theorem dX7_signsOfRow_17 : decode cX7_signsOfRow 17 = .ok (.aload_n 0, 1) := by decide +kernel
theorem dX7_signsOfRow_18 : decode cX7_signsOfRow 18 = .ok (.getfield 70, 3) := by decide +kernel
theorem dX7_signsOfRow_21 : decode cX7_signsOfRow 21 = .ok (.iload_n 2, 1) := by decide +kernel
theorem dX7_signsOfRow_22 : decode cX7_signsOfRow 22 = .ok (.iaload, 1) := by decide +kernel
theorem dX7_signsOfRow_23 : decode cX7_signsOfRow 23 = .ok (.iaload, 1) := by decide +kernel
theorem dX7_signsOfRow_24 : decode cX7_signsOfRow 24 = .ok (.ior, 1) := by decide +kernel
theorem dX7_signsOfRow_25 : decode cX7_signsOfRow 25 = .ok (.istore_n 1, 1) := by decide +kernel
theorem dX7_signsOfRow_26 : decode cX7_signsOfRow 26 = .ok (.iinc 2 1, 3) := by decide +kernel
theorem dX7_signsOfRow_29 : decode cX7_signsOfRow 29 = .ok (.goto (-25), 3) := by decide +kernel
theorem dX7_signsOfRow_32 : decode cX7_signsOfRow 32 = .ok (.iload_n 1, 1) := by decide +kernel
theorem dX7_signsOfRow_33 : decode cX7_signsOfRow 33 = .ok (.ireturn, 1) := by decide +kernel
theorem dX7_mixes_0 : decode cX7_mixes 0 = .ok (.aload_n 0, 1) := by decide +kernel
theorem dX7_mixes_1 : decode cX7_mixes 1 = .ok (.invokevirtual 136, 3) := by decide +kernel
theorem dX7_mixes_4 : decode cX7_mixes 4 = .ok (.istore_n 1, 1) := by decide +kernel
theorem dX7_mixes_5 : decode cX7_mixes 5 = .ok (.iconst 0, 1) := by decide +kernel
theorem dX7_mixes_6 : decode cX7_mixes 6 = .ok (.istore_n 2, 1) := by decide +kernel
theorem dX7_mixes_7 : decode cX7_mixes 7 = .ok (.iload_n 2, 1) := by decide +kernel
theorem dX7_mixes_8 : decode cX7_mixes 8 = .ok (.aload_n 0, 1) := by decide +kernel
theorem dX7_mixes_9 : decode cX7_mixes 9 = .ok (.getfield 133, 3) := by decide +kernel
theorem dX7_mixes_12 : decode cX7_mixes 12 = .ok (.if_icmp .ge 41, 3) := by decide +kernel
theorem dX7_mixes_15 : decode cX7_mixes 15 = .ok (.aload_n 0, 1) := by decide +kernel
theorem dX7_mixes_16 : decode cX7_mixes 16 = .ok (.getfield 13, 3) := by decide +kernel
theorem dX7_mixes_19 : decode cX7_mixes 19 = .ok (.aload_n 0, 1) := by decide +kernel
theorem dX7_mixes_20 : decode cX7_mixes 20 = .ok (.getfield 70, 3) := by decide +kernel
theorem dX7_mixes_23 : decode cX7_mixes 23 = .ok (.iload_n 2, 1) := by decide +kernel
theorem dX7_mixes_24 : decode cX7_mixes 24 = .ok (.iaload, 1) := by decide +kernel
theorem dX7_mixes_25 : decode cX7_mixes 25 = .ok (.iaload, 1) := by decide +kernel
theorem dX7_mixes_26 : decode cX7_mixes 26 = .ok (.iconst (-1), 1) := by decide +kernel
theorem dX7_mixes_27 : decode cX7_mixes 27 = .ok (.if_icmp .eq 20, 3) := by decide +kernel
theorem dX7_mixes_30 : decode cX7_mixes 30 = .ok (.aload_n 0, 1) := by decide +kernel
theorem dX7_mixes_31 : decode cX7_mixes 31 = .ok (.getfield 13, 3) := by decide +kernel
theorem dX7_mixes_34 : decode cX7_mixes 34 = .ok (.aload_n 0, 1) := by decide +kernel
theorem dX7_mixes_35 : decode cX7_mixes 35 = .ok (.getfield 70, 3) := by decide +kernel
theorem dX7_mixes_38 : decode cX7_mixes 38 = .ok (.iload_n 2, 1) := by decide +kernel
theorem dX7_mixes_39 : decode cX7_mixes 39 = .ok (.iaload, 1) := by decide +kernel
theorem dX7_mixes_40 : decode cX7_mixes 40 = .ok (.iaload, 1) := by decide +kernel
theorem dX7_mixes_41 : decode cX7_mixes 41 = .ok (.iload_n 1, 1) := by decide +kernel
theorem dX7_mixes_42 : decode cX7_mixes 42 = .ok (.if_icmp .eq 5, 3) := by decide +kernel
theorem dX7_mixes_45 : decode cX7_mixes 45 = .ok (.iload_n 2, 1) := by decide +kernel
theorem dX7_mixes_46 : decode cX7_mixes 46 = .ok (.ireturn, 1) := by decide +kernel
theorem dX7_mixes_47 : decode cX7_mixes 47 = .ok (.iinc 2 1, 3) := by decide +kernel
theorem dX7_mixes_50 : decode cX7_mixes 50 = .ok (.goto (-43), 3) := by decide +kernel
theorem dX7_mixes_53 : decode cX7_mixes 53 = .ok (.iconst (-1), 1) := by decide +kernel
theorem dX7_mixes_54 : decode cX7_mixes 54 = .ok (.ireturn, 1) := by decide +kernel
theorem dX7_comesAgain_0 : decode cX7_comesAgain 0 = .ok (.iconst 0, 1) := by decide +kernel
theorem dX7_comesAgain_1 : decode cX7_comesAgain 1 = .ok (.istore_n 2, 1) := by decide +kernel
theorem dX7_comesAgain_2 : decode cX7_comesAgain 2 = .ok (.iload_n 2, 1) := by decide +kernel
theorem dX7_comesAgain_3 : decode cX7_comesAgain 3 = .ok (.aload_n 0, 1) := by decide +kernel
theorem dX7_comesAgain_4 : decode cX7_comesAgain 4 = .ok (.getfield 133, 3) := by decide +kernel
theorem dX7_comesAgain_7 : decode cX7_comesAgain 7 = .ok (.if_icmp .ge 106, 3) := by decide +kernel
theorem dX7_comesAgain_10 : decode cX7_comesAgain 10 = .ok (.iconst 0, 1) := by decide +kernel
theorem dX7_comesAgain_11 : decode cX7_comesAgain 11 = .ok (.istore_n 3, 1) := by decide +kernel
theorem dX7_comesAgain_12 : decode cX7_comesAgain 12 = .ok (.iload_n 3, 1) := by decide +kernel
theorem dX7_comesAgain_13 : decode cX7_comesAgain 13 = .ok (.iload_n 2, 1) := by decide +kernel
theorem dX7_comesAgain_14 : decode cX7_comesAgain 14 = .ok (.if_icmp .ge 26, 3) := by decide +kernel
theorem dX7_comesAgain_17 : decode cX7_comesAgain 17 = .ok (.aload_n 0, 1) := by decide +kernel
theorem dX7_comesAgain_18 : decode cX7_comesAgain 18 = .ok (.getfield 70, 3) := by decide +kernel
theorem dX7_comesAgain_21 : decode cX7_comesAgain 21 = .ok (.iload_n 3, 1) := by decide +kernel
theorem dX7_comesAgain_22 : decode cX7_comesAgain 22 = .ok (.iaload, 1) := by decide +kernel
theorem dX7_comesAgain_23 : decode cX7_comesAgain 23 = .ok (.aload_n 0, 1) := by decide +kernel
theorem dX7_comesAgain_24 : decode cX7_comesAgain 24 = .ok (.getfield 70, 3) := by decide +kernel
theorem dX7_comesAgain_27 : decode cX7_comesAgain 27 = .ok (.iload_n 2, 1) := by decide +kernel
theorem dX7_comesAgain_28 : decode cX7_comesAgain 28 = .ok (.iaload, 1) := by decide +kernel
theorem dX7_comesAgain_29 : decode cX7_comesAgain 29 = .ok (.if_icmp .ne 5, 3) := by decide +kernel
theorem dX7_comesAgain_32 : decode cX7_comesAgain 32 = .ok (.iload_n 2, 1) := by decide +kernel
theorem dX7_comesAgain_33 : decode cX7_comesAgain 33 = .ok (.ireturn, 1) := by decide +kernel
theorem dX7_comesAgain_34 : decode cX7_comesAgain 34 = .ok (.iinc 3 1, 3) := by decide +kernel
theorem dX7_comesAgain_37 : decode cX7_comesAgain 37 = .ok (.goto (-25), 3) := by decide +kernel
theorem dX7_comesAgain_40 : decode cX7_comesAgain 40 = .ok (.iload_n 1, 1) := by decide +kernel
theorem dX7_comesAgain_41 : decode cX7_comesAgain 41 = .ok (.iconst 1, 1) := by decide +kernel
theorem dX7_comesAgain_42 : decode cX7_comesAgain 42 = .ok (.isub, 1) := by decide +kernel
theorem dX7_comesAgain_43 : decode cX7_comesAgain 43 = .ok (.istore_n 3, 1) := by decide +kernel
theorem dX7_comesAgain_44 : decode cX7_comesAgain 44 = .ok (.iload_n 3, 1) := by decide +kernel
theorem dX7_comesAgain_45 : decode cX7_comesAgain 45 = .ok (.ifCond .lt 62, 3) := by decide +kernel
theorem dX7_comesAgain_48 : decode cX7_comesAgain 48 = .ok (.iload_n 3, 1) := by decide +kernel
theorem dX7_comesAgain_49 : decode cX7_comesAgain 49 = .ok (.iload_n 1, 1) := by decide +kernel
theorem dX7_comesAgain_50 : decode cX7_comesAgain 50 = .ok (.aload_n 0, 1) := by decide +kernel
theorem dX7_comesAgain_51 : decode cX7_comesAgain 51 = .ok (.getfield 111, 3) := by decide +kernel
theorem dX7_comesAgain_54 : decode cX7_comesAgain 54 = .ok (.isub, 1) := by decide +kernel
theorem dX7_comesAgain_55 : decode cX7_comesAgain 55 = .ok (.if_icmp .lt 52, 3) := by decide +kernel
theorem dX7_comesAgain_58 : decode cX7_comesAgain 58 = .ok (.iconst 0, 1) := by decide +kernel
theorem dX7_comesAgain_59 : decode cX7_comesAgain 59 = .ok (.istore 4, 2) := by decide +kernel
theorem dX7_comesAgain_61 : decode cX7_comesAgain 61 = .ok (.iload 4, 2) := by decide +kernel
theorem dX7_comesAgain_63 : decode cX7_comesAgain 63 = .ok (.aload_n 0, 1) := by decide +kernel
theorem dX7_comesAgain_64 : decode cX7_comesAgain 64 = .ok (.getfield 26, 3) := by decide +kernel
theorem dX7_comesAgain_67 : decode cX7_comesAgain 67 = .ok (.iload_n 3, 1) := by decide +kernel
theorem dX7_comesAgain_68 : decode cX7_comesAgain 68 = .ok (.iaload, 1) := by decide +kernel
theorem dX7_comesAgain_69 : decode cX7_comesAgain 69 = .ok (.if_icmp .ge 32, 3) := by decide +kernel
theorem dX7_comesAgain_72 : decode cX7_comesAgain 72 = .ok (.aload_n 0, 1) := by decide +kernel
theorem dX7_comesAgain_73 : decode cX7_comesAgain 73 = .ok (.getfield 23, 3) := by decide +kernel
theorem dX7_comesAgain_76 : decode cX7_comesAgain 76 = .ok (.bipush 6, 2) := by decide +kernel
theorem dX7_comesAgain_78 : decode cX7_comesAgain 78 = .ok (.iload_n 3, 1) := by decide +kernel
theorem dX7_comesAgain_79 : decode cX7_comesAgain 79 = .ok (.imul, 1) := by decide +kernel
theorem dX7_comesAgain_80 : decode cX7_comesAgain 80 = .ok (.iload 4, 2) := by decide +kernel
theorem dX7_comesAgain_82 : decode cX7_comesAgain 82 = .ok (.iadd, 1) := by decide +kernel
theorem dX7_comesAgain_83 : decode cX7_comesAgain 83 = .ok (.iaload, 1) := by decide +kernel
theorem dX7_comesAgain_84 : decode cX7_comesAgain 84 = .ok (.aload_n 0, 1) := by decide +kernel
theorem dX7_comesAgain_85 : decode cX7_comesAgain 85 = .ok (.getfield 70, 3) := by decide +kernel
theorem dX7_comesAgain_88 : decode cX7_comesAgain 88 = .ok (.iload_n 2, 1) := by decide +kernel
theorem dX7_comesAgain_89 : decode cX7_comesAgain 89 = .ok (.iaload, 1) := by decide +kernel
theorem dX7_comesAgain_90 : decode cX7_comesAgain 90 = .ok (.if_icmp .ne 5, 3) := by decide +kernel
theorem dX7_comesAgain_93 : decode cX7_comesAgain 93 = .ok (.iload_n 2, 1) := by decide +kernel
theorem dX7_comesAgain_94 : decode cX7_comesAgain 94 = .ok (.ireturn, 1) := by decide +kernel
theorem dX7_comesAgain_95 : decode cX7_comesAgain 95 = .ok (.iinc 4 1, 3) := by decide +kernel
theorem dX7_comesAgain_98 : decode cX7_comesAgain 98 = .ok (.goto (-37), 3) := by decide +kernel
theorem dX7_comesAgain_101 : decode cX7_comesAgain 101 = .ok (.iinc 3 (-1), 3) := by decide +kernel
theorem dX7_comesAgain_104 : decode cX7_comesAgain 104 = .ok (.goto (-60), 3) := by decide +kernel
theorem dX7_comesAgain_107 : decode cX7_comesAgain 107 = .ok (.iinc 2 1, 3) := by decide +kernel
theorem dX7_comesAgain_110 : decode cX7_comesAgain 110 = .ok (.goto (-108), 3) := by decide +kernel
theorem dX7_comesAgain_113 : decode cX7_comesAgain 113 = .ok (.iconst (-1), 1) := by decide +kernel
theorem dX7_comesAgain_114 : decode cX7_comesAgain 114 = .ok (.ireturn, 1) := by decide +kernel
theorem dX7_joins_0 : decode cX7_joins 0 = .ok (.aload_n 0, 1) := by decide +kernel
theorem dX7_joins_1 : decode cX7_joins 1 = .ok (.invokevirtual 140, 3) := by decide +kernel
theorem dX7_joins_4 : decode cX7_joins 4 = .ok (.aload_n 0, 1) := by decide +kernel
theorem dX7_joins_5 : decode cX7_joins 5 = .ok (.iload_n 1, 1) := by decide +kernel
theorem dX7_joins_6 : decode cX7_joins 6 = .ok (.iconst 1, 1) := by decide +kernel
theorem dX7_joins_7 : decode cX7_joins 7 = .ok (.isub, 1) := by decide +kernel
theorem dX7_joins_8 : decode cX7_joins 8 = .ok (.invokevirtual 143, 3) := by decide +kernel
theorem dX7_joins_11 : decode cX7_joins 11 = .ok (.iand, 1) := by decide +kernel
theorem dX7_joins_12 : decode cX7_joins 12 = .ok (.sipush 255, 3) := by decide +kernel
theorem dX7_joins_15 : decode cX7_joins 15 = .ok (.iand, 1) := by decide +kernel
theorem dX7_joins_16 : decode cX7_joins 16 = .ok (.ifCond .eq 7, 3) := by decide +kernel
theorem dX7_joins_19 : decode cX7_joins 19 = .ok (.iconst 1, 1) := by decide +kernel
theorem dX7_joins_20 : decode cX7_joins 20 = .ok (.goto 4, 3) := by decide +kernel
theorem dX7_joins_23 : decode cX7_joins 23 = .ok (.iconst 0, 1) := by decide +kernel
theorem dX7_joins_24 : decode cX7_joins 24 = .ok (.istore_n 2, 1) := by decide +kernel
theorem dX7_joins_25 : decode cX7_joins 25 = .ok (.iconst 0, 1) := by decide +kernel
theorem dX7_joins_26 : decode cX7_joins 26 = .ok (.istore_n 3, 1) := by decide +kernel
theorem dX7_joins_27 : decode cX7_joins 27 = .ok (.iload_n 3, 1) := by decide +kernel
theorem dX7_joins_28 : decode cX7_joins 28 = .ok (.aload_n 0, 1) := by decide +kernel
theorem dX7_joins_29 : decode cX7_joins 29 = .ok (.getfield 133, 3) := by decide +kernel
theorem dX7_joins_32 : decode cX7_joins 32 = .ok (.if_icmp .ge 68, 3) := by decide +kernel
theorem dX7_joins_35 : decode cX7_joins 35 = .ok (.iconst 0, 1) := by decide +kernel
theorem dX7_joins_36 : decode cX7_joins 36 = .ok (.istore 4, 2) := by decide +kernel
theorem dX7_joins_38 : decode cX7_joins 38 = .ok (.iload 4, 2) := by decide +kernel
theorem dX7_joins_40 : decode cX7_joins 40 = .ok (.aload_n 0, 1) := by decide +kernel
theorem dX7_joins_41 : decode cX7_joins 41 = .ok (.getfield 26, 3) := by decide +kernel
theorem dX7_joins_44 : decode cX7_joins 44 = .ok (.iload_n 1, 1) := by decide +kernel
theorem dX7_joins_45 : decode cX7_joins 45 = .ok (.iconst 1, 1) := by decide +kernel
theorem dX7_joins_46 : decode cX7_joins 46 = .ok (.isub, 1) := by decide +kernel
theorem dX7_joins_47 : decode cX7_joins 47 = .ok (.iaload, 1) := by decide +kernel
theorem dX7_joins_48 : decode cX7_joins 48 = .ok (.if_icmp .ge 46, 3) := by decide +kernel
theorem dX7_joins_51 : decode cX7_joins 51 = .ok (.iload_n 2, 1) := by decide +kernel
theorem dX7_joins_52 : decode cX7_joins 52 = .ok (.ifCond .ne 30, 3) := by decide +kernel
theorem dX7_joins_55 : decode cX7_joins 55 = .ok (.aload_n 0, 1) := by decide +kernel
theorem dX7_joins_56 : decode cX7_joins 56 = .ok (.aload_n 0, 1) := by decide +kernel
theorem dX7_joins_57 : decode cX7_joins 57 = .ok (.getfield 70, 3) := by decide +kernel
theorem dX7_joins_60 : decode cX7_joins 60 = .ok (.iload_n 3, 1) := by decide +kernel
theorem dX7_joins_61 : decode cX7_joins 61 = .ok (.iaload, 1) := by decide +kernel
theorem dX7_joins_62 : decode cX7_joins 62 = .ok (.aload_n 0, 1) := by decide +kernel
theorem dX7_joins_63 : decode cX7_joins 63 = .ok (.getfield 23, 3) := by decide +kernel
theorem dX7_joins_66 : decode cX7_joins 66 = .ok (.bipush 6, 2) := by decide +kernel
theorem dX7_joins_68 : decode cX7_joins 68 = .ok (.iload_n 1, 1) := by decide +kernel
theorem dX7_joins_69 : decode cX7_joins 69 = .ok (.iconst 1, 1) := by decide +kernel
theorem dX7_joins_70 : decode cX7_joins 70 = .ok (.isub, 1) := by decide +kernel
theorem dX7_joins_71 : decode cX7_joins 71 = .ok (.imul, 1) := by decide +kernel
theorem dX7_joins_72 : decode cX7_joins 72 = .ok (.iload 4, 2) := by decide +kernel
theorem dX7_joins_74 : decode cX7_joins 74 = .ok (.iadd, 1) := by decide +kernel
theorem dX7_joins_75 : decode cX7_joins 75 = .ok (.iaload, 1) := by decide +kernel
theorem dX7_joins_76 : decode cX7_joins 76 = .ok (.invokevirtual 100, 3) := by decide +kernel
theorem dX7_joins_79 : decode cX7_joins 79 = .ok (.ifCond .eq 7, 3) := by decide +kernel
theorem dX7_joins_82 : decode cX7_joins 82 = .ok (.iconst 1, 1) := by decide +kernel
theorem dX7_joins_83 : decode cX7_joins 83 = .ok (.goto 4, 3) := by decide +kernel
theorem dX7_joins_86 : decode cX7_joins 86 = .ok (.iconst 0, 1) := by decide +kernel
theorem dX7_joins_87 : decode cX7_joins 87 = .ok (.istore_n 2, 1) := by decide +kernel
theorem dX7_joins_88 : decode cX7_joins 88 = .ok (.iinc 4 1, 3) := by decide +kernel
theorem dX7_joins_91 : decode cX7_joins 91 = .ok (.goto (-53), 3) := by decide +kernel
theorem dX7_joins_94 : decode cX7_joins 94 = .ok (.iinc 3 1, 3) := by decide +kernel
theorem dX7_joins_97 : decode cX7_joins 97 = .ok (.goto (-70), 3) := by decide +kernel
theorem dX7_joins_100 : decode cX7_joins 100 = .ok (.iload_n 2, 1) := by decide +kernel
theorem dX7_joins_101 : decode cX7_joins 101 = .ok (.ireturn, 1) := by decide +kernel
theorem dX7_lowest_0 : decode cX7_lowest 0 = .ok (.iconst 0, 1) := by decide +kernel
theorem dX7_lowest_1 : decode cX7_lowest 1 = .ok (.istore_n 1, 1) := by decide +kernel
theorem dX7_lowest_2 : decode cX7_lowest 2 = .ok (.iload_n 0, 1) := by decide +kernel
theorem dX7_lowest_3 : decode cX7_lowest 3 = .ok (.iload_n 1, 1) := by decide +kernel
theorem dX7_lowest_4 : decode cX7_lowest 4 = .ok (.ishr, 1) := by decide +kernel
theorem dX7_lowest_5 : decode cX7_lowest 5 = .ok (.iconst 1, 1) := by decide +kernel
theorem dX7_lowest_6 : decode cX7_lowest 6 = .ok (.iand, 1) := by decide +kernel
theorem dX7_lowest_7 : decode cX7_lowest 7 = .ok (.ifCond .ne 9, 3) := by decide +kernel
theorem dX7_lowest_10 : decode cX7_lowest 10 = .ok (.iinc 1 1, 3) := by decide +kernel
theorem dX7_lowest_13 : decode cX7_lowest 13 = .ok (.goto (-11), 3) := by decide +kernel
theorem dX7_lowest_16 : decode cX7_lowest 16 = .ok (.iload_n 1, 1) := by decide +kernel
theorem dX7_lowest_17 : decode cX7_lowest 17 = .ok (.ireturn, 1) := by decide +kernel
theorem dX7_isLong_0 : decode cX7_isLong 0 = .ok (.iload_n 0, 1) := by decide +kernel
theorem dX7_isLong_1 : decode cX7_isLong 1 = .ok (.ifCond .eq 8, 3) := by decide +kernel
theorem dX7_isLong_4 : decode cX7_isLong 4 = .ok (.iload_n 0, 1) := by decide +kernel
theorem dX7_isLong_5 : decode cX7_isLong 5 = .ok (.iconst 2, 1) := by decide +kernel
theorem dX7_isLong_6 : decode cX7_isLong 6 = .ok (.if_icmp .ne 7, 3) := by decide +kernel
theorem dX7_isLong_9 : decode cX7_isLong 9 = .ok (.iconst 1, 1) := by decide +kernel
theorem dX7_isLong_10 : decode cX7_isLong 10 = .ok (.goto 4, 3) := by decide +kernel
theorem dX7_isLong_13 : decode cX7_isLong 13 = .ok (.iconst 0, 1) := by decide +kernel
theorem dX7_isLong_14 : decode cX7_isLong 14 = .ok (.ireturn, 1) := by decide +kernel
theorem dX7_lengthFault_0 : decode cX7_lengthFault 0 = .ok (.iload_n 1, 1) := by decide +kernel
theorem dX7_lengthFault_1 : decode cX7_lengthFault 1 = .ok (.ifCond .ne 5, 3) := by decide +kernel
theorem dX7_lengthFault_4 : decode cX7_lengthFault 4 = .ok (.iconst (-1), 1) := by decide +kernel
theorem dX7_lengthFault_5 : decode cX7_lengthFault 5 = .ok (.ireturn, 1) := by decide +kernel
theorem dX7_lengthFault_6 : decode cX7_lengthFault 6 = .ok (.aload_n 0, 1) := by decide +kernel
theorem dX7_lengthFault_7 : decode cX7_lengthFault 7 = .ok (.iload_n 1, 1) := by decide +kernel
theorem dX7_lengthFault_8 : decode cX7_lengthFault 8 = .ok (.iconst 1, 1) := by decide +kernel
theorem dX7_lengthFault_9 : decode cX7_lengthFault 9 = .ok (.isub, 1) := by decide +kernel
theorem dX7_lengthFault_10 : decode cX7_lengthFault 10 = .ok (.invokevirtual 129, 3) := by decide +kernel
theorem dX7_lengthFault_13 : decode cX7_lengthFault 13 = .ok (.istore_n 2, 1) := by decide +kernel
theorem dX7_lengthFault_14 : decode cX7_lengthFault 14 = .ok (.aload_n 0, 1) := by decide +kernel
theorem dX7_lengthFault_15 : decode cX7_lengthFault 15 = .ok (.iload_n 1, 1) := by decide +kernel
theorem dX7_lengthFault_16 : decode cX7_lengthFault 16 = .ok (.iconst 1, 1) := by decide +kernel
theorem dX7_lengthFault_17 : decode cX7_lengthFault 17 = .ok (.isub, 1) := by decide +kernel
theorem dX7_lengthFault_18 : decode cX7_lengthFault 18 = .ok (.invokevirtual 146, 3) := by decide +kernel
theorem dX7_lengthFault_21 : decode cX7_lengthFault 21 = .ok (.istore_n 3, 1) := by decide +kernel
theorem dX7_lengthFault_22 : decode cX7_lengthFault 22 = .ok (.aload_n 0, 1) := by decide +kernel
theorem dX7_lengthFault_23 : decode cX7_lengthFault 23 = .ok (.invokevirtual 136, 3) := by decide +kernel
theorem dX7_lengthFault_26 : decode cX7_lengthFault 26 = .ok (.istore 4, 2) := by decide +kernel
theorem dX7_lengthFault_28 : decode cX7_lengthFault 28 = .ok (.iload_n 2, 1) := by decide +kernel
theorem dX7_lengthFault_29 : decode cX7_lengthFault 29 = .ok (.iconst (-1), 1) := by decide +kernel
theorem dX7_lengthFault_30 : decode cX7_lengthFault 30 = .ok (.if_icmp .eq 23, 3) := by decide +kernel
theorem dX7_lengthFault_33 : decode cX7_lengthFault 33 = .ok (.iload_n 2, 1) := by decide +kernel
theorem dX7_lengthFault_34 : decode cX7_lengthFault 34 = .ok (.invokestatic 149, 3) := by decide +kernel
theorem dX7_lengthFault_37 : decode cX7_lengthFault 37 = .ok (.ifCond .eq 16, 3) := by decide +kernel
theorem dX7_lengthFault_40 : decode cX7_lengthFault 40 = .ok (.iload_n 3, 1) := by decide +kernel
theorem dX7_lengthFault_41 : decode cX7_lengthFault 41 = .ok (.iconst 3, 1) := by decide +kernel
theorem dX7_lengthFault_42 : decode cX7_lengthFault 42 = .ok (.if_icmp .ge 11, 3) := by decide +kernel
theorem dX7_lengthFault_45 : decode cX7_lengthFault 45 = .ok (.iload 4, 2) := by decide +kernel
theorem dX7_lengthFault_47 : decode cX7_lengthFault 47 = .ok (.iload_n 2, 1) := by decide +kernel
theorem dX7_lengthFault_48 : decode cX7_lengthFault 48 = .ok (.if_icmp .eq 5, 3) := by decide +kernel
theorem dX7_lengthFault_51 : decode cX7_lengthFault 51 = .ok (.iload_n 2, 1) := by decide +kernel
theorem dX7_lengthFault_52 : decode cX7_lengthFault 52 = .ok (.ireturn, 1) := by decide +kernel
theorem dX7_lengthFault_53 : decode cX7_lengthFault 53 = .ok (.iload 4, 2) := by decide +kernel
theorem dX7_lengthFault_55 : decode cX7_lengthFault 55 = .ok (.iconst (-1), 1) := by decide +kernel
theorem dX7_lengthFault_56 : decode cX7_lengthFault 56 = .ok (.if_icmp .ne 5, 3) := by decide +kernel
theorem dX7_lengthFault_59 : decode cX7_lengthFault 59 = .ok (.iconst (-1), 1) := by decide +kernel
theorem dX7_lengthFault_60 : decode cX7_lengthFault 60 = .ok (.ireturn, 1) := by decide +kernel
theorem dX7_lengthFault_61 : decode cX7_lengthFault 61 = .ok (.iload 4, 2) := by decide +kernel
theorem dX7_lengthFault_63 : decode cX7_lengthFault 63 = .ok (.iload_n 2, 1) := by decide +kernel
theorem dX7_lengthFault_64 : decode cX7_lengthFault 64 = .ok (.if_icmp .ne 27, 3) := by decide +kernel
theorem dX7_lengthFault_67 : decode cX7_lengthFault 67 = .ok (.iload_n 3, 1) := by decide +kernel
theorem dX7_lengthFault_68 : decode cX7_lengthFault 68 = .ok (.iload 4, 2) := by decide +kernel
theorem dX7_lengthFault_70 : decode cX7_lengthFault 70 = .ok (.invokestatic 149, 3) := by decide +kernel
theorem dX7_lengthFault_73 : decode cX7_lengthFault 73 = .ok (.ifCond .eq 7, 3) := by decide +kernel
theorem dX7_lengthFault_76 : decode cX7_lengthFault 76 = .ok (.iconst 5, 1) := by decide +kernel
theorem dX7_lengthFault_77 : decode cX7_lengthFault 77 = .ok (.goto 4, 3) := by decide +kernel
theorem dX7_lengthFault_80 : decode cX7_lengthFault 80 = .ok (.iconst 3, 1) := by decide +kernel
theorem dX7_lengthFault_81 : decode cX7_lengthFault 81 = .ok (.if_icmp .lt 8, 3) := by decide +kernel
theorem dX7_lengthFault_84 : decode cX7_lengthFault 84 = .ok (.iload 4, 2) := by decide +kernel
theorem dX7_lengthFault_86 : decode cX7_lengthFault 86 = .ok (.goto 4, 3) := by decide +kernel
theorem dX7_lengthFault_89 : decode cX7_lengthFault 89 = .ok (.iconst (-1), 1) := by decide +kernel
theorem dX7_lengthFault_90 : decode cX7_lengthFault 90 = .ok (.ireturn, 1) := by decide +kernel
theorem dX7_lengthFault_91 : decode cX7_lengthFault 91 = .ok (.iload_n 1, 1) := by decide +kernel
theorem dX7_lengthFault_92 : decode cX7_lengthFault 92 = .ok (.iconst 1, 1) := by decide +kernel
theorem dX7_lengthFault_93 : decode cX7_lengthFault 93 = .ok (.isub, 1) := by decide +kernel
theorem dX7_lengthFault_94 : decode cX7_lengthFault 94 = .ok (.istore 5, 2) := by decide +kernel
theorem dX7_lengthFault_96 : decode cX7_lengthFault 96 = .ok (.iload 5, 2) := by decide +kernel
theorem dX7_lengthFault_98 : decode cX7_lengthFault 98 = .ok (.ifCond .lt 31, 3) := by decide +kernel
theorem dX7_lengthFault_101 : decode cX7_lengthFault 101 = .ok (.iload 5, 2) := by decide +kernel
theorem dX7_lengthFault_103 : decode cX7_lengthFault 103 = .ok (.iload_n 1, 1) := by decide +kernel
theorem dX7_lengthFault_104 : decode cX7_lengthFault 104 = .ok (.iconst 4, 1) := by decide +kernel
theorem dX7_lengthFault_105 : decode cX7_lengthFault 105 = .ok (.isub, 1) := by decide +kernel
theorem dX7_lengthFault_106 : decode cX7_lengthFault 106 = .ok (.if_icmp .lt 23, 3) := by decide +kernel
theorem dX7_lengthFault_109 : decode cX7_lengthFault 109 = .ok (.aload_n 0, 1) := by decide +kernel
theorem dX7_lengthFault_110 : decode cX7_lengthFault 110 = .ok (.iload 5, 2) := by decide +kernel
theorem dX7_lengthFault_112 : decode cX7_lengthFault 112 = .ok (.invokevirtual 129, 3) := by decide +kernel
theorem dX7_lengthFault_115 : decode cX7_lengthFault 115 = .ok (.iload 4, 2) := by decide +kernel
theorem dX7_lengthFault_117 : decode cX7_lengthFault 117 = .ok (.if_icmp .ne 6, 3) := by decide +kernel
theorem dX7_lengthFault_120 : decode cX7_lengthFault 120 = .ok (.iload 4, 2) := by decide +kernel
theorem dX7_lengthFault_122 : decode cX7_lengthFault 122 = .ok (.ireturn, 1) := by decide +kernel
theorem dX7_lengthFault_123 : decode cX7_lengthFault 123 = .ok (.iinc 5 (-1), 3) := by decide +kernel
theorem dX7_lengthFault_126 : decode cX7_lengthFault 126 = .ok (.goto (-30), 3) := by decide +kernel
theorem dX7_lengthFault_129 : decode cX7_lengthFault 129 = .ok (.iconst (-1), 1) := by decide +kernel
theorem dX7_lengthFault_130 : decode cX7_lengthFault 130 = .ok (.ireturn, 1) := by decide +kernel
theorem dX7_seatFault_0 : decode cX7_seatFault 0 = .ok (.aload_n 0, 1) := by decide +kernel
theorem dX7_seatFault_1 : decode cX7_seatFault 1 = .ok (.invokevirtual 140, 3) := by decide +kernel
theorem dX7_seatFault_4 : decode cX7_seatFault 4 = .ok (.istore_n 2, 1) := by decide +kernel
theorem dX7_seatFault_5 : decode cX7_seatFault 5 = .ok (.iload_n 2, 1) := by decide +kernel
theorem dX7_seatFault_6 : decode cX7_seatFault 6 = .ok (.bipush 8, 2) := by decide +kernel
theorem dX7_seatFault_8 : decode cX7_seatFault 8 = .ok (.ishr, 1) := by decide +kernel
theorem dX7_seatFault_9 : decode cX7_seatFault 9 = .ok (.iconst 1, 1) := by decide +kernel
theorem dX7_seatFault_10 : decode cX7_seatFault 10 = .ok (.iand, 1) := by decide +kernel
theorem dX7_seatFault_11 : decode cX7_seatFault 11 = .ok (.iconst 1, 1) := by decide +kernel
theorem dX7_seatFault_12 : decode cX7_seatFault 12 = .ok (.if_icmp .ne 7, 3) := by decide +kernel
theorem dX7_seatFault_15 : decode cX7_seatFault 15 = .ok (.iconst 1, 1) := by decide +kernel
theorem dX7_seatFault_16 : decode cX7_seatFault 16 = .ok (.goto 4, 3) := by decide +kernel
theorem dX7_seatFault_19 : decode cX7_seatFault 19 = .ok (.iconst 0, 1) := by decide +kernel
theorem dX7_seatFault_20 : decode cX7_seatFault 20 = .ok (.istore_n 3, 1) := by decide +kernel
theorem dX7_seatFault_21 : decode cX7_seatFault 21 = .ok (.iload_n 2, 1) := by decide +kernel
theorem dX7_seatFault_22 : decode cX7_seatFault 22 = .ok (.bipush 9, 2) := by decide +kernel
theorem dX7_seatFault_24 : decode cX7_seatFault 24 = .ok (.ishr, 1) := by decide +kernel
theorem dX7_seatFault_25 : decode cX7_seatFault 25 = .ok (.iconst 1, 1) := by decide +kernel
theorem dX7_seatFault_26 : decode cX7_seatFault 26 = .ok (.iand, 1) := by decide +kernel
theorem dX7_seatFault_27 : decode cX7_seatFault 27 = .ok (.iconst 1, 1) := by decide +kernel
theorem dX7_seatFault_28 : decode cX7_seatFault 28 = .ok (.if_icmp .ne 7, 3) := by decide +kernel
theorem dX7_seatFault_31 : decode cX7_seatFault 31 = .ok (.iconst 1, 1) := by decide +kernel
theorem dX7_seatFault_32 : decode cX7_seatFault 32 = .ok (.goto 4, 3) := by decide +kernel
theorem dX7_seatFault_35 : decode cX7_seatFault 35 = .ok (.iconst 0, 1) := by decide +kernel
theorem dX7_seatFault_36 : decode cX7_seatFault 36 = .ok (.istore 4, 2) := by decide +kernel
theorem dX7_seatFault_38 : decode cX7_seatFault 38 = .ok (.iload_n 3, 1) := by decide +kernel
theorem dX7_seatFault_39 : decode cX7_seatFault 39 = .ok (.aload_n 0, 1) := by decide +kernel
theorem dX7_seatFault_40 : decode cX7_seatFault 40 = .ok (.getfield 32, 3) := by decide +kernel
theorem dX7_seatFault_43 : decode cX7_seatFault 43 = .ok (.iload_n 1, 1) := by decide +kernel
theorem dX7_seatFault_44 : decode cX7_seatFault 44 = .ok (.iaload, 1) := by decide +kernel
theorem dX7_seatFault_45 : decode cX7_seatFault 45 = .ok (.iconst 1, 1) := by decide +kernel
theorem dX7_seatFault_46 : decode cX7_seatFault 46 = .ok (.if_icmp .ne 7, 3) := by decide +kernel
theorem dX7_seatFault_49 : decode cX7_seatFault 49 = .ok (.iconst 1, 1) := by decide +kernel
theorem dX7_seatFault_50 : decode cX7_seatFault 50 = .ok (.goto 4, 3) := by decide +kernel
theorem dX7_seatFault_53 : decode cX7_seatFault 53 = .ok (.iconst 0, 1) := by decide +kernel
theorem dX7_seatFault_54 : decode cX7_seatFault 54 = .ok (.if_icmp .eq 7, 3) := by decide +kernel
theorem dX7_seatFault_57 : decode cX7_seatFault 57 = .ok (.iconst 1, 1) := by decide +kernel
theorem dX7_seatFault_58 : decode cX7_seatFault 58 = .ok (.goto 28, 3) := by decide +kernel
theorem dX7_seatFault_61 : decode cX7_seatFault 61 = .ok (.iload 4, 2) := by decide +kernel
theorem dX7_seatFault_63 : decode cX7_seatFault 63 = .ok (.aload_n 0, 1) := by decide +kernel
theorem dX7_seatFault_64 : decode cX7_seatFault 64 = .ok (.getfield 32, 3) := by decide +kernel
theorem dX7_seatFault_67 : decode cX7_seatFault 67 = .ok (.iload_n 1, 1) := by decide +kernel
theorem dX7_seatFault_68 : decode cX7_seatFault 68 = .ok (.iaload, 1) := by decide +kernel
theorem dX7_seatFault_69 : decode cX7_seatFault 69 = .ok (.iconst 2, 1) := by decide +kernel
theorem dX7_seatFault_70 : decode cX7_seatFault 70 = .ok (.if_icmp .ne 7, 3) := by decide +kernel
theorem dX7_seatFault_73 : decode cX7_seatFault 73 = .ok (.iconst 1, 1) := by decide +kernel
theorem dX7_seatFault_74 : decode cX7_seatFault 74 = .ok (.goto 4, 3) := by decide +kernel
theorem dX7_seatFault_77 : decode cX7_seatFault 77 = .ok (.iconst 0, 1) := by decide +kernel
theorem dX7_seatFault_78 : decode cX7_seatFault 78 = .ok (.if_icmp .eq 7, 3) := by decide +kernel
theorem dX7_seatFault_81 : decode cX7_seatFault 81 = .ok (.iconst 2, 1) := by decide +kernel
theorem dX7_seatFault_82 : decode cX7_seatFault 82 = .ok (.goto 4, 3) := by decide +kernel
theorem dX7_seatFault_85 : decode cX7_seatFault 85 = .ok (.iconst (-1), 1) := by decide +kernel
theorem dX7_seatFault_86 : decode cX7_seatFault 86 = .ok (.ireturn, 1) := by decide +kernel
theorem dX7_faultOf_0 : decode cX7_faultOf 0 = .ok (.iload_n 1, 1) := by decide +kernel
theorem dX7_faultOf_1 : decode cX7_faultOf 1 = .ok (.iconst 2, 1) := by decide +kernel
theorem dX7_faultOf_2 : decode cX7_faultOf 2 = .ok (.irem, 1) := by decide +kernel
theorem dX7_faultOf_3 : decode cX7_faultOf 3 = .ok (.ifCond .ne 10, 3) := by decide +kernel
theorem dX7_faultOf_6 : decode cX7_faultOf 6 = .ok (.aload_n 0, 1) := by decide +kernel
theorem dX7_faultOf_7 : decode cX7_faultOf 7 = .ok (.getfield 114, 3) := by decide +kernel
theorem dX7_faultOf_10 : decode cX7_faultOf 10 = .ok (.goto 7, 3) := by decide +kernel
theorem dX7_faultOf_13 : decode cX7_faultOf 13 = .ok (.aload_n 0, 1) := by decide +kernel
theorem dX7_faultOf_14 : decode cX7_faultOf 14 = .ok (.getfield 117, 3) := by decide +kernel
theorem dX7_faultOf_17 : decode cX7_faultOf 17 = .ok (.istore_n 3, 1) := by decide +kernel
theorem dX7_faultOf_18 : decode cX7_faultOf 18 = .ok (.aload_n 0, 1) := by decide +kernel
theorem dX7_faultOf_19 : decode cX7_faultOf 19 = .ok (.aload_n 0, 1) := by decide +kernel
theorem dX7_faultOf_20 : decode cX7_faultOf 20 = .ok (.invokevirtual 152, 3) := by decide +kernel
theorem dX7_faultOf_23 : decode cX7_faultOf 23 = .ok (.putfield 155, 3) := by decide +kernel
theorem dX7_faultOf_26 : decode cX7_faultOf 26 = .ok (.aload_n 0, 1) := by decide +kernel
theorem dX7_faultOf_27 : decode cX7_faultOf 27 = .ok (.getfield 155, 3) := by decide +kernel
theorem dX7_faultOf_30 : decode cX7_faultOf 30 = .ok (.iload_n 3, 1) := by decide +kernel
theorem dX7_faultOf_31 : decode cX7_faultOf 31 = .ok (.if_icmp .eq 5, 3) := by decide +kernel
theorem dX7_faultOf_34 : decode cX7_faultOf 34 = .ok (.iconst 1, 1) := by decide +kernel
theorem dX7_faultOf_35 : decode cX7_faultOf 35 = .ok (.ireturn, 1) := by decide +kernel
theorem dX7_faultOf_36 : decode cX7_faultOf 36 = .ok (.aload_n 0, 1) := by decide +kernel
theorem dX7_faultOf_37 : decode cX7_faultOf 37 = .ok (.aload_n 0, 1) := by decide +kernel
theorem dX7_faultOf_38 : decode cX7_faultOf 38 = .ok (.invokevirtual 158, 3) := by decide +kernel
theorem dX7_faultOf_41 : decode cX7_faultOf 41 = .ok (.putfield 155, 3) := by decide +kernel
theorem dX7_faultOf_44 : decode cX7_faultOf 44 = .ok (.aload_n 0, 1) := by decide +kernel
theorem dX7_faultOf_45 : decode cX7_faultOf 45 = .ok (.getfield 155, 3) := by decide +kernel
theorem dX7_faultOf_48 : decode cX7_faultOf 48 = .ok (.iconst (-1), 1) := by decide +kernel
theorem dX7_faultOf_49 : decode cX7_faultOf 49 = .ok (.if_icmp .eq 5, 3) := by decide +kernel
theorem dX7_faultOf_52 : decode cX7_faultOf 52 = .ok (.iconst 2, 1) := by decide +kernel
theorem dX7_faultOf_53 : decode cX7_faultOf 53 = .ok (.ireturn, 1) := by decide +kernel
theorem dX7_faultOf_54 : decode cX7_faultOf 54 = .ok (.aload_n 0, 1) := by decide +kernel
theorem dX7_faultOf_55 : decode cX7_faultOf 55 = .ok (.aload_n 0, 1) := by decide +kernel
theorem dX7_faultOf_56 : decode cX7_faultOf 56 = .ok (.iload_n 1, 1) := by decide +kernel
theorem dX7_faultOf_57 : decode cX7_faultOf 57 = .ok (.invokevirtual 161, 3) := by decide +kernel
theorem dX7_faultOf_60 : decode cX7_faultOf 60 = .ok (.putfield 155, 3) := by decide +kernel
theorem dX7_faultOf_63 : decode cX7_faultOf 63 = .ok (.aload_n 0, 1) := by decide +kernel
theorem dX7_faultOf_64 : decode cX7_faultOf 64 = .ok (.getfield 155, 3) := by decide +kernel
theorem dX7_faultOf_67 : decode cX7_faultOf 67 = .ok (.iconst (-1), 1) := by decide +kernel
theorem dX7_faultOf_68 : decode cX7_faultOf 68 = .ok (.if_icmp .eq 5, 3) := by decide +kernel
theorem dX7_faultOf_71 : decode cX7_faultOf 71 = .ok (.iconst 3, 1) := by decide +kernel
theorem dX7_faultOf_72 : decode cX7_faultOf 72 = .ok (.ireturn, 1) := by decide +kernel
theorem dX7_faultOf_73 : decode cX7_faultOf 73 = .ok (.aload_n 0, 1) := by decide +kernel
theorem dX7_faultOf_74 : decode cX7_faultOf 74 = .ok (.iload_n 2, 1) := by decide +kernel
theorem dX7_faultOf_75 : decode cX7_faultOf 75 = .ok (.putfield 155, 3) := by decide +kernel
theorem dX7_faultOf_78 : decode cX7_faultOf 78 = .ok (.iload_n 1, 1) := by decide +kernel
theorem dX7_faultOf_79 : decode cX7_faultOf 79 = .ok (.ifCond .le 22, 3) := by decide +kernel
theorem dX7_faultOf_82 : decode cX7_faultOf 82 = .ok (.iload_n 2, 1) := by decide +kernel
theorem dX7_faultOf_83 : decode cX7_faultOf 83 = .ok (.iconst (-1), 1) := by decide +kernel
theorem dX7_faultOf_84 : decode cX7_faultOf 84 = .ok (.if_icmp .eq 17, 3) := by decide +kernel
theorem dX7_faultOf_87 : decode cX7_faultOf 87 = .ok (.aload_n 0, 1) := by decide +kernel
theorem dX7_faultOf_88 : decode cX7_faultOf 88 = .ok (.getfield 29, 3) := by decide +kernel
theorem dX7_faultOf_91 : decode cX7_faultOf 91 = .ok (.iload_n 1, 1) := by decide +kernel
theorem dX7_faultOf_92 : decode cX7_faultOf 92 = .ok (.iconst 1, 1) := by decide +kernel
theorem dX7_faultOf_93 : decode cX7_faultOf 93 = .ok (.isub, 1) := by decide +kernel
theorem dX7_faultOf_94 : decode cX7_faultOf 94 = .ok (.iaload, 1) := by decide +kernel
theorem dX7_faultOf_95 : decode cX7_faultOf 95 = .ok (.iload_n 2, 1) := by decide +kernel
theorem dX7_faultOf_96 : decode cX7_faultOf 96 = .ok (.if_icmp .ne 5, 3) := by decide +kernel
theorem dX7_faultOf_99 : decode cX7_faultOf 99 = .ok (.iconst 4, 1) := by decide +kernel
theorem dX7_faultOf_100 : decode cX7_faultOf 100 = .ok (.ireturn, 1) := by decide +kernel
theorem dX7_faultOf_101 : decode cX7_faultOf 101 = .ok (.aload_n 0, 1) := by decide +kernel
theorem dX7_faultOf_102 : decode cX7_faultOf 102 = .ok (.iload_n 1, 1) := by decide +kernel
theorem dX7_faultOf_103 : decode cX7_faultOf 103 = .ok (.iconst 1, 1) := by decide +kernel
theorem dX7_faultOf_104 : decode cX7_faultOf 104 = .ok (.isub, 1) := by decide +kernel
theorem dX7_faultOf_105 : decode cX7_faultOf 105 = .ok (.putfield 155, 3) := by decide +kernel
theorem dX7_faultOf_108 : decode cX7_faultOf 108 = .ok (.iload_n 1, 1) := by decide +kernel
theorem dX7_faultOf_109 : decode cX7_faultOf 109 = .ok (.ifCond .le 13, 3) := by decide +kernel
theorem dX7_faultOf_112 : decode cX7_faultOf 112 = .ok (.aload_n 0, 1) := by decide +kernel
theorem dX7_faultOf_113 : decode cX7_faultOf 113 = .ok (.iload_n 1, 1) := by decide +kernel
theorem dX7_faultOf_114 : decode cX7_faultOf 114 = .ok (.invokevirtual 164, 3) := by decide +kernel
theorem dX7_faultOf_117 : decode cX7_faultOf 117 = .ok (.ifCond .ne 5, 3) := by decide +kernel
theorem dX7_faultOf_120 : decode cX7_faultOf 120 = .ok (.iconst 5, 1) := by decide +kernel
theorem dX7_faultOf_121 : decode cX7_faultOf 121 = .ok (.ireturn, 1) := by decide +kernel
theorem dX7_faultOf_122 : decode cX7_faultOf 122 = .ok (.iload_n 1, 1) := by decide +kernel
theorem dX7_faultOf_123 : decode cX7_faultOf 123 = .ok (.iconst 1, 1) := by decide +kernel
theorem dX7_faultOf_124 : decode cX7_faultOf 124 = .ok (.if_icmp .le 22, 3) := by decide +kernel
theorem dX7_faultOf_127 : decode cX7_faultOf 127 = .ok (.aload_n 0, 1) := by decide +kernel
theorem dX7_faultOf_128 : decode cX7_faultOf 128 = .ok (.invokevirtual 140, 3) := by decide +kernel
theorem dX7_faultOf_131 : decode cX7_faultOf 131 = .ok (.aload_n 0, 1) := by decide +kernel
theorem dX7_faultOf_132 : decode cX7_faultOf 132 = .ok (.iload_n 1, 1) := by decide +kernel
theorem dX7_faultOf_133 : decode cX7_faultOf 133 = .ok (.iconst 2, 1) := by decide +kernel
theorem dX7_faultOf_134 : decode cX7_faultOf 134 = .ok (.isub, 1) := by decide +kernel
theorem dX7_faultOf_135 : decode cX7_faultOf 135 = .ok (.invokevirtual 143, 3) := by decide +kernel
theorem dX7_faultOf_138 : decode cX7_faultOf 138 = .ok (.iand, 1) := by decide +kernel
theorem dX7_faultOf_139 : decode cX7_faultOf 139 = .ok (.sipush 255, 3) := by decide +kernel
theorem dX7_faultOf_142 : decode cX7_faultOf 142 = .ok (.iand, 1) := by decide +kernel
theorem dX7_faultOf_143 : decode cX7_faultOf 143 = .ok (.goto 4, 3) := by decide +kernel
theorem dX7_faultOf_146 : decode cX7_faultOf 146 = .ok (.iconst 0, 1) := by decide +kernel
theorem dX7_faultOf_147 : decode cX7_faultOf 147 = .ok (.istore 4, 2) := by decide +kernel
theorem dX7_faultOf_149 : decode cX7_faultOf 149 = .ok (.aload_n 0, 1) := by decide +kernel
theorem dX7_faultOf_150 : decode cX7_faultOf 150 = .ok (.iload 4, 2) := by decide +kernel
theorem dX7_faultOf_152 : decode cX7_faultOf 152 = .ok (.ifCond .ne 7, 3) := by decide +kernel
theorem dX7_faultOf_155 : decode cX7_faultOf 155 = .ok (.iconst (-1), 1) := by decide +kernel
theorem dX7_faultOf_156 : decode cX7_faultOf 156 = .ok (.goto 8, 3) := by decide +kernel
theorem dX7_faultOf_159 : decode cX7_faultOf 159 = .ok (.iload 4, 2) := by decide +kernel
theorem dX7_faultOf_161 : decode cX7_faultOf 161 = .ok (.invokestatic 167, 3) := by decide +kernel
theorem dX7_faultOf_164 : decode cX7_faultOf 164 = .ok (.putfield 155, 3) := by decide +kernel
theorem dX7_faultOf_167 : decode cX7_faultOf 167 = .ok (.iload 4, 2) := by decide +kernel
theorem dX7_faultOf_169 : decode cX7_faultOf 169 = .ok (.ifCond .eq 6, 3) := by decide +kernel
theorem dX7_faultOf_172 : decode cX7_faultOf 172 = .ok (.bipush 6, 2) := by decide +kernel
theorem dX7_faultOf_174 : decode cX7_faultOf 174 = .ok (.ireturn, 1) := by decide +kernel
theorem dX7_faultOf_175 : decode cX7_faultOf 175 = .ok (.aload_n 0, 1) := by decide +kernel
theorem dX7_faultOf_176 : decode cX7_faultOf 176 = .ok (.aload_n 0, 1) := by decide +kernel
theorem dX7_faultOf_177 : decode cX7_faultOf 177 = .ok (.iload_n 1, 1) := by decide +kernel
theorem dX7_faultOf_178 : decode cX7_faultOf 178 = .ok (.invokevirtual 170, 3) := by decide +kernel
theorem dX7_faultOf_181 : decode cX7_faultOf 181 = .ok (.putfield 155, 3) := by decide +kernel
theorem dX7_faultOf_184 : decode cX7_faultOf 184 = .ok (.aload_n 0, 1) := by decide +kernel
theorem dX7_faultOf_185 : decode cX7_faultOf 185 = .ok (.getfield 155, 3) := by decide +kernel
theorem dX7_faultOf_188 : decode cX7_faultOf 188 = .ok (.iconst (-1), 1) := by decide +kernel
theorem dX7_faultOf_189 : decode cX7_faultOf 189 = .ok (.if_icmp .eq 6, 3) := by decide +kernel
theorem dX7_faultOf_192 : decode cX7_faultOf 192 = .ok (.bipush 7, 2) := by decide +kernel
theorem dX7_faultOf_194 : decode cX7_faultOf 194 = .ok (.ireturn, 1) := by decide +kernel
theorem dX7_faultOf_195 : decode cX7_faultOf 195 = .ok (.aload_n 0, 1) := by decide +kernel
theorem dX7_faultOf_196 : decode cX7_faultOf 196 = .ok (.aload_n 0, 1) := by decide +kernel
theorem dX7_faultOf_197 : decode cX7_faultOf 197 = .ok (.iload_n 1, 1) := by decide +kernel
theorem dX7_faultOf_198 : decode cX7_faultOf 198 = .ok (.invokevirtual 173, 3) := by decide +kernel
theorem dX7_faultOf_201 : decode cX7_faultOf 201 = .ok (.putfield 155, 3) := by decide +kernel
theorem dX7_faultOf_204 : decode cX7_faultOf 204 = .ok (.aload_n 0, 1) := by decide +kernel
theorem dX7_faultOf_205 : decode cX7_faultOf 205 = .ok (.getfield 155, 3) := by decide +kernel
theorem dX7_faultOf_208 : decode cX7_faultOf 208 = .ok (.iconst (-1), 1) := by decide +kernel
theorem dX7_faultOf_209 : decode cX7_faultOf 209 = .ok (.if_icmp .eq 8, 3) := by decide +kernel
theorem dX7_faultOf_212 : decode cX7_faultOf 212 = .ok (.bipush 8, 2) := by decide +kernel
theorem dX7_faultOf_214 : decode cX7_faultOf 214 = .ok (.goto 4, 3) := by decide +kernel
theorem dX7_faultOf_217 : decode cX7_faultOf 217 = .ok (.iconst 0, 1) := by decide +kernel
theorem dX7_faultOf_218 : decode cX7_faultOf 218 = .ok (.ireturn, 1) := by decide +kernel
theorem dX7_laysLink_0 : decode cX7_laysLink 0 = .ok (.aload_n 0, 1) := by decide +kernel
theorem dX7_laysLink_1 : decode cX7_laysLink 1 = .ok (.aload_n 0, 1) := by decide +kernel
theorem dX7_laysLink_2 : decode cX7_laysLink 2 = .ok (.getfield 26, 3) := by decide +kernel
theorem dX7_laysLink_5 : decode cX7_laysLink 5 = .ok (.iload_n 1, 1) := by decide +kernel
theorem dX7_laysLink_6 : decode cX7_laysLink 6 = .ok (.iaload, 1) := by decide +kernel
theorem dX7_laysLink_7 : decode cX7_laysLink 7 = .ok (.putfield 133, 3) := by decide +kernel
theorem dX7_laysLink_10 : decode cX7_laysLink 10 = .ok (.iconst 0, 1) := by decide +kernel
theorem dX7_laysLink_11 : decode cX7_laysLink 11 = .ok (.istore_n 2, 1) := by decide +kernel
theorem dX7_laysLink_12 : decode cX7_laysLink 12 = .ok (.iload_n 2, 1) := by decide +kernel
theorem dX7_laysLink_13 : decode cX7_laysLink 13 = .ok (.aload_n 0, 1) := by decide +kernel
theorem dX7_laysLink_14 : decode cX7_laysLink 14 = .ok (.getfield 133, 3) := by decide +kernel
theorem dX7_laysLink_17 : decode cX7_laysLink 17 = .ok (.if_icmp .ge 26, 3) := by decide +kernel
theorem dX7_laysLink_20 : decode cX7_laysLink 20 = .ok (.aload_n 0, 1) := by decide +kernel
theorem dX7_laysLink_21 : decode cX7_laysLink 21 = .ok (.getfield 70, 3) := by decide +kernel
theorem dX7_laysLink_24 : decode cX7_laysLink 24 = .ok (.iload_n 2, 1) := by decide +kernel
theorem dX7_laysLink_25 : decode cX7_laysLink 25 = .ok (.aload_n 0, 1) := by decide +kernel
theorem dX7_laysLink_26 : decode cX7_laysLink 26 = .ok (.getfield 23, 3) := by decide +kernel
theorem dX7_laysLink_29 : decode cX7_laysLink 29 = .ok (.bipush 6, 2) := by decide +kernel
theorem dX7_laysLink_31 : decode cX7_laysLink 31 = .ok (.iload_n 1, 1) := by decide +kernel
theorem dX7_laysLink_32 : decode cX7_laysLink 32 = .ok (.imul, 1) := by decide +kernel
theorem dX7_laysLink_33 : decode cX7_laysLink 33 = .ok (.iload_n 2, 1) := by decide +kernel
theorem dX7_laysLink_34 : decode cX7_laysLink 34 = .ok (.iadd, 1) := by decide +kernel
theorem dX7_laysLink_35 : decode cX7_laysLink 35 = .ok (.iaload, 1) := by decide +kernel
theorem dX7_laysLink_36 : decode cX7_laysLink 36 = .ok (.iastore, 1) := by decide +kernel
theorem dX7_laysLink_37 : decode cX7_laysLink 37 = .ok (.iinc 2 1, 3) := by decide +kernel
theorem dX7_laysLink_40 : decode cX7_laysLink 40 = .ok (.goto (-28), 3) := by decide +kernel
theorem dX7_laysLink_43 : decode cX7_laysLink 43 = .ok (.return_, 1) := by decide +kernel
theorem dX7_offer_0 : decode cX7_offer 0 = .ok (.aload_n 0, 1) := by decide +kernel
theorem dX7_offer_1 : decode cX7_offer 1 = .ok (.aload_n 0, 1) := by decide +kernel
theorem dX7_offer_2 : decode cX7_offer 2 = .ok (.iload_n 1, 1) := by decide +kernel
theorem dX7_offer_3 : decode cX7_offer 3 = .ok (.invokevirtual 176, 3) := by decide +kernel
theorem dX7_offer_6 : decode cX7_offer 6 = .ok (.aload_n 0, 1) := by decide +kernel
theorem dX7_offer_7 : decode cX7_offer 7 = .ok (.getfield 103, 3) := by decide +kernel
theorem dX7_offer_10 : decode cX7_offer 10 = .ok (.ifCond .eq 22, 3) := by decide +kernel
theorem dX7_offer_13 : decode cX7_offer 13 = .ok (.aload_n 0, 1) := by decide +kernel
theorem dX7_offer_14 : decode cX7_offer 14 = .ok (.invokevirtual 107, 3) := by decide +kernel
theorem dX7_offer_17 : decode cX7_offer 17 = .ok (.ifCond .ne 15, 3) := by decide +kernel
theorem dX7_offer_20 : decode cX7_offer 20 = .ok (.aload_n 0, 1) := by decide +kernel
theorem dX7_offer_21 : decode cX7_offer 21 = .ok (.getfield 120, 3) := by decide +kernel
theorem dX7_offer_24 : decode cX7_offer 24 = .ok (.iconst 4, 1) := by decide +kernel
theorem dX7_offer_25 : decode cX7_offer 25 = .ok (.if_icmp .ge 7, 3) := by decide +kernel
theorem dX7_offer_28 : decode cX7_offer 28 = .ok (.iconst 1, 1) := by decide +kernel
theorem dX7_offer_29 : decode cX7_offer 29 = .ok (.goto 4, 3) := by decide +kernel
theorem dX7_offer_32 : decode cX7_offer 32 = .ok (.iconst 0, 1) := by decide +kernel
theorem dX7_offer_33 : decode cX7_offer 33 = .ok (.iconst 1, 1) := by decide +kernel
theorem dX7_offer_34 : decode cX7_offer 34 = .ok (.invokevirtual 92, 3) := by decide +kernel
theorem dX7_offer_37 : decode cX7_offer 37 = .ok (.ifCond .ne 5, 3) := by decide +kernel
theorem dX7_offer_40 : decode cX7_offer 40 = .ok (.iconst 0, 1) := by decide +kernel
theorem dX7_offer_41 : decode cX7_offer 41 = .ok (.ireturn, 1) := by decide +kernel
theorem dX7_offer_42 : decode cX7_offer 42 = .ok (.aload_n 0, 1) := by decide +kernel
theorem dX7_offer_43 : decode cX7_offer 43 = .ok (.aload_n 0, 1) := by decide +kernel
theorem dX7_offer_44 : decode cX7_offer 44 = .ok (.getfield 126, 3) := by decide +kernel
theorem dX7_offer_47 : decode cX7_offer 47 = .ok (.putfield 133, 3) := by decide +kernel
theorem dX7_offer_50 : decode cX7_offer 50 = .ok (.iconst 0, 1) := by decide +kernel
theorem dX7_offer_51 : decode cX7_offer 51 = .ok (.istore_n 2, 1) := by decide +kernel
theorem dX7_offer_52 : decode cX7_offer 52 = .ok (.iload_n 2, 1) := by decide +kernel
theorem dX7_offer_53 : decode cX7_offer 53 = .ok (.aload_n 0, 1) := by decide +kernel
theorem dX7_offer_54 : decode cX7_offer 54 = .ok (.getfield 126, 3) := by decide +kernel
theorem dX7_offer_57 : decode cX7_offer 57 = .ok (.if_icmp .ge 21, 3) := by decide +kernel
theorem dX7_offer_60 : decode cX7_offer 60 = .ok (.aload_n 0, 1) := by decide +kernel
theorem dX7_offer_61 : decode cX7_offer 61 = .ok (.getfield 70, 3) := by decide +kernel
theorem dX7_offer_64 : decode cX7_offer 64 = .ok (.iload_n 2, 1) := by decide +kernel
theorem dX7_offer_65 : decode cX7_offer 65 = .ok (.aload_n 0, 1) := by decide +kernel
theorem dX7_offer_66 : decode cX7_offer 66 = .ok (.getfield 45, 3) := by decide +kernel
theorem dX7_offer_69 : decode cX7_offer 69 = .ok (.iload_n 2, 1) := by decide +kernel
theorem dX7_offer_70 : decode cX7_offer 70 = .ok (.iaload, 1) := by decide +kernel
theorem dX7_offer_71 : decode cX7_offer 71 = .ok (.iastore, 1) := by decide +kernel
theorem dX7_offer_72 : decode cX7_offer 72 = .ok (.iinc 2 1, 3) := by decide +kernel
theorem dX7_offer_75 : decode cX7_offer 75 = .ok (.goto (-23), 3) := by decide +kernel
theorem dX7_offer_78 : decode cX7_offer 78 = .ok (.aload_n 0, 1) := by decide +kernel
theorem dX7_offer_79 : decode cX7_offer 79 = .ok (.aload_n 0, 1) := by decide +kernel
theorem dX7_offer_80 : decode cX7_offer 80 = .ok (.getfield 86, 3) := by decide +kernel
theorem dX7_offer_83 : decode cX7_offer 83 = .ok (.iload_n 1, 1) := by decide +kernel
theorem dX7_offer_84 : decode cX7_offer 84 = .ok (.invokevirtual 179, 3) := by decide +kernel
theorem dX7_offer_87 : decode cX7_offer 87 = .ok (.istore_n 2, 1) := by decide +kernel
theorem dX7_offer_88 : decode cX7_offer 88 = .ok (.iload_n 2, 1) := by decide +kernel
theorem dX7_offer_89 : decode cX7_offer 89 = .ok (.ifCond .le 14, 3) := by decide +kernel
theorem dX7_offer_92 : decode cX7_offer 92 = .ok (.aload_n 0, 1) := by decide +kernel
theorem dX7_offer_93 : decode cX7_offer 93 = .ok (.aload_n 0, 1) := by decide +kernel
theorem dX7_offer_94 : decode cX7_offer 94 = .ok (.getfield 155, 3) := by decide +kernel
theorem dX7_offer_97 : decode cX7_offer 97 = .ok (.putfield 57, 3) := by decide +kernel
theorem dX7_offer_100 : decode cX7_offer 100 = .ok (.iload_n 2, 1) := by decide +kernel
theorem dX7_offer_101 : decode cX7_offer 101 = .ok (.ineg, 1) := by decide +kernel
theorem dX7_offer_102 : decode cX7_offer 102 = .ok (.ireturn, 1) := by decide +kernel
theorem dX7_offer_103 : decode cX7_offer 103 = .ok (.iconst 0, 1) := by decide +kernel
theorem dX7_offer_104 : decode cX7_offer 104 = .ok (.istore_n 3, 1) := by decide +kernel
theorem dX7_offer_105 : decode cX7_offer 105 = .ok (.iload_n 3, 1) := by decide +kernel
theorem dX7_offer_106 : decode cX7_offer 106 = .ok (.aload_n 0, 1) := by decide +kernel
theorem dX7_offer_107 : decode cX7_offer 107 = .ok (.getfield 126, 3) := by decide +kernel
theorem dX7_offer_110 : decode cX7_offer 110 = .ok (.if_icmp .ge 29, 3) := by decide +kernel
theorem dX7_offer_113 : decode cX7_offer 113 = .ok (.aload_n 0, 1) := by decide +kernel
theorem dX7_offer_114 : decode cX7_offer 114 = .ok (.getfield 48, 3) := by decide +kernel
theorem dX7_offer_117 : decode cX7_offer 117 = .ok (.bipush 6, 2) := by decide +kernel
theorem dX7_offer_119 : decode cX7_offer 119 = .ok (.aload_n 0, 1) := by decide +kernel
theorem dX7_offer_120 : decode cX7_offer 120 = .ok (.getfield 120, 3) := by decide +kernel
theorem dX7_offer_123 : decode cX7_offer 123 = .ok (.imul, 1) := by decide +kernel
theorem dX7_offer_124 : decode cX7_offer 124 = .ok (.iload_n 3, 1) := by decide +kernel
theorem dX7_offer_125 : decode cX7_offer 125 = .ok (.iadd, 1) := by decide +kernel
theorem dX7_offer_126 : decode cX7_offer 126 = .ok (.aload_n 0, 1) := by decide +kernel
theorem dX7_offer_127 : decode cX7_offer 127 = .ok (.getfield 45, 3) := by decide +kernel
theorem dX7_offer_130 : decode cX7_offer 130 = .ok (.iload_n 3, 1) := by decide +kernel
theorem dX7_offer_131 : decode cX7_offer 131 = .ok (.iaload, 1) := by decide +kernel
theorem dX7_offer_132 : decode cX7_offer 132 = .ok (.iastore, 1) := by decide +kernel
theorem dX7_offer_133 : decode cX7_offer 133 = .ok (.iinc 3 1, 3) := by decide +kernel
theorem dX7_offer_136 : decode cX7_offer 136 = .ok (.goto (-31), 3) := by decide +kernel
theorem dX7_offer_139 : decode cX7_offer 139 = .ok (.aload_n 0, 1) := by decide +kernel
theorem dX7_offer_140 : decode cX7_offer 140 = .ok (.getfield 51, 3) := by decide +kernel
theorem dX7_offer_143 : decode cX7_offer 143 = .ok (.aload_n 0, 1) := by decide +kernel
theorem dX7_offer_144 : decode cX7_offer 144 = .ok (.getfield 120, 3) := by decide +kernel
theorem dX7_offer_147 : decode cX7_offer 147 = .ok (.aload_n 0, 1) := by decide +kernel
theorem dX7_offer_148 : decode cX7_offer 148 = .ok (.getfield 126, 3) := by decide +kernel
theorem dX7_offer_151 : decode cX7_offer 151 = .ok (.iastore, 1) := by decide +kernel
theorem dX7_offer_152 : decode cX7_offer 152 = .ok (.aload_n 0, 1) := by decide +kernel
theorem dX7_offer_153 : decode cX7_offer 153 = .ok (.getfield 54, 3) := by decide +kernel
theorem dX7_offer_156 : decode cX7_offer 156 = .ok (.aload_n 0, 1) := by decide +kernel
theorem dX7_offer_157 : decode cX7_offer 157 = .ok (.getfield 120, 3) := by decide +kernel
theorem dX7_offer_160 : decode cX7_offer 160 = .ok (.iload_n 1, 1) := by decide +kernel
theorem dX7_offer_161 : decode cX7_offer 161 = .ok (.iastore, 1) := by decide +kernel
theorem dX7_offer_162 : decode cX7_offer 162 = .ok (.aload_n 0, 1) := by decide +kernel
theorem dX7_offer_163 : decode cX7_offer 163 = .ok (.iconst 0, 1) := by decide +kernel
theorem dX7_offer_164 : decode cX7_offer 164 = .ok (.putfield 126, 3) := by decide +kernel
theorem dX7_offer_167 : decode cX7_offer 167 = .ok (.aload_n 0, 1) := by decide +kernel
theorem dX7_offer_168 : decode cX7_offer 168 = .ok (.dup, 1) := by decide +kernel
theorem dX7_offer_169 : decode cX7_offer 169 = .ok (.getfield 120, 3) := by decide +kernel
theorem dX7_offer_172 : decode cX7_offer 172 = .ok (.iconst 1, 1) := by decide +kernel
theorem dX7_offer_173 : decode cX7_offer 173 = .ok (.iadd, 1) := by decide +kernel
theorem dX7_offer_174 : decode cX7_offer 174 = .ok (.putfield 120, 3) := by decide +kernel
theorem dX7_offer_177 : decode cX7_offer 177 = .ok (.aload_n 0, 1) := by decide +kernel
theorem dX7_offer_178 : decode cX7_offer 178 = .ok (.getfield 120, 3) := by decide +kernel
theorem dX7_offer_181 : decode cX7_offer 181 = .ok (.iconst 1, 1) := by decide +kernel
theorem dX7_offer_182 : decode cX7_offer 182 = .ok (.isub, 1) := by decide +kernel
theorem dX7_offer_183 : decode cX7_offer 183 = .ok (.ireturn, 1) := by decide +kernel
theorem dX7_why_0 : decode cX7_why 0 = .ok (.aload_n 0, 1) := by decide +kernel
theorem dX7_why_1 : decode cX7_why 1 = .ok (.iconst 0, 1) := by decide +kernel
theorem dX7_why_2 : decode cX7_why 2 = .ok (.putfield 73, 3) := by decide +kernel
theorem dX7_why_5 : decode cX7_why 5 = .ok (.aload_n 0, 1) := by decide +kernel
theorem dX7_why_6 : decode cX7_why 6 = .ok (.getfield 57, 3) := by decide +kernel
theorem dX7_why_9 : decode cX7_why 9 = .ok (.ireturn, 1) := by decide +kernel
theorem dX7_choose_0 : decode cX7_choose 0 = .ok (.aload_n 0, 1) := by decide +kernel
theorem dX7_choose_1 : decode cX7_choose 1 = .ok (.iload_n 1, 1) := by decide +kernel
theorem dX7_choose_2 : decode cX7_choose 2 = .ok (.iconst 0, 1) := by decide +kernel
theorem dX7_choose_3 : decode cX7_choose 3 = .ok (.aload_n 0, 1) := by decide +kernel
theorem dX7_choose_4 : decode cX7_choose 4 = .ok (.getfield 120, 3) := by decide +kernel
theorem dX7_choose_7 : decode cX7_choose 7 = .ok (.iconst 1, 1) := by decide +kernel
theorem dX7_choose_8 : decode cX7_choose 8 = .ok (.isub, 1) := by decide +kernel
theorem dX7_choose_9 : decode cX7_choose 9 = .ok (.invokestatic 79, 3) := by decide +kernel
theorem dX7_choose_12 : decode cX7_choose 12 = .ok (.iconst 1, 1) := by decide +kernel
theorem dX7_choose_13 : decode cX7_choose 13 = .ok (.iconst 1, 1) := by decide +kernel
theorem dX7_choose_14 : decode cX7_choose 14 = .ok (.invokevirtual 92, 3) := by decide +kernel
theorem dX7_choose_17 : decode cX7_choose 17 = .ok (.ifCond .ne 5, 3) := by decide +kernel
theorem dX7_choose_20 : decode cX7_choose 20 = .ok (.iconst 0, 1) := by decide +kernel
theorem dX7_choose_21 : decode cX7_choose 21 = .ok (.ireturn, 1) := by decide +kernel
theorem dX7_choose_22 : decode cX7_choose 22 = .ok (.iconst 0, 1) := by decide +kernel
theorem dX7_choose_23 : decode cX7_choose 23 = .ok (.istore_n 2, 1) := by decide +kernel
theorem dX7_choose_24 : decode cX7_choose 24 = .ok (.iload_n 2, 1) := by decide +kernel
theorem dX7_choose_25 : decode cX7_choose 25 = .ok (.aload_n 0, 1) := by decide +kernel
theorem dX7_choose_26 : decode cX7_choose 26 = .ok (.getfield 51, 3) := by decide +kernel
theorem dX7_choose_29 : decode cX7_choose 29 = .ok (.iload_n 1, 1) := by decide +kernel
theorem dX7_choose_30 : decode cX7_choose 30 = .ok (.iaload, 1) := by decide +kernel
theorem dX7_choose_31 : decode cX7_choose 31 = .ok (.if_icmp .ge 34, 3) := by decide +kernel
theorem dX7_choose_34 : decode cX7_choose 34 = .ok (.aload_n 0, 1) := by decide +kernel
theorem dX7_choose_35 : decode cX7_choose 35 = .ok (.getfield 23, 3) := by decide +kernel
theorem dX7_choose_38 : decode cX7_choose 38 = .ok (.bipush 6, 2) := by decide +kernel
theorem dX7_choose_40 : decode cX7_choose 40 = .ok (.aload_n 0, 1) := by decide +kernel
theorem dX7_choose_41 : decode cX7_choose 41 = .ok (.getfield 86, 3) := by decide +kernel
theorem dX7_choose_44 : decode cX7_choose 44 = .ok (.imul, 1) := by decide +kernel
theorem dX7_choose_45 : decode cX7_choose 45 = .ok (.iload_n 2, 1) := by decide +kernel
theorem dX7_choose_46 : decode cX7_choose 46 = .ok (.iadd, 1) := by decide +kernel
theorem dX7_choose_47 : decode cX7_choose 47 = .ok (.aload_n 0, 1) := by decide +kernel
theorem dX7_choose_48 : decode cX7_choose 48 = .ok (.getfield 48, 3) := by decide +kernel
theorem dX7_choose_51 : decode cX7_choose 51 = .ok (.bipush 6, 2) := by decide +kernel
theorem dX7_choose_53 : decode cX7_choose 53 = .ok (.iload_n 1, 1) := by decide +kernel
theorem dX7_choose_54 : decode cX7_choose 54 = .ok (.imul, 1) := by decide +kernel
theorem dX7_choose_55 : decode cX7_choose 55 = .ok (.iload_n 2, 1) := by decide +kernel
theorem dX7_choose_56 : decode cX7_choose 56 = .ok (.iadd, 1) := by decide +kernel
theorem dX7_choose_57 : decode cX7_choose 57 = .ok (.iaload, 1) := by decide +kernel
theorem dX7_choose_58 : decode cX7_choose 58 = .ok (.iastore, 1) := by decide +kernel
theorem dX7_choose_59 : decode cX7_choose 59 = .ok (.iinc 2 1, 3) := by decide +kernel
theorem dX7_choose_62 : decode cX7_choose 62 = .ok (.goto (-38), 3) := by decide +kernel
theorem dX7_choose_65 : decode cX7_choose 65 = .ok (.aload_n 0, 1) := by decide +kernel
theorem dX7_choose_66 : decode cX7_choose 66 = .ok (.getfield 26, 3) := by decide +kernel
theorem dX7_choose_69 : decode cX7_choose 69 = .ok (.aload_n 0, 1) := by decide +kernel
theorem dX7_choose_70 : decode cX7_choose 70 = .ok (.getfield 86, 3) := by decide +kernel
theorem dX7_choose_73 : decode cX7_choose 73 = .ok (.aload_n 0, 1) := by decide +kernel
theorem dX7_choose_74 : decode cX7_choose 74 = .ok (.getfield 51, 3) := by decide +kernel
theorem dX7_choose_77 : decode cX7_choose 77 = .ok (.iload_n 1, 1) := by decide +kernel
theorem dX7_choose_78 : decode cX7_choose 78 = .ok (.iaload, 1) := by decide +kernel
theorem dX7_choose_79 : decode cX7_choose 79 = .ok (.iastore, 1) := by decide +kernel
theorem dX7_choose_80 : decode cX7_choose 80 = .ok (.aload_n 0, 1) := by decide +kernel
theorem dX7_choose_81 : decode cX7_choose 81 = .ok (.getfield 29, 3) := by decide +kernel
theorem dX7_choose_84 : decode cX7_choose 84 = .ok (.aload_n 0, 1) := by decide +kernel
theorem dX7_choose_85 : decode cX7_choose 85 = .ok (.getfield 86, 3) := by decide +kernel
theorem dX7_choose_88 : decode cX7_choose 88 = .ok (.aload_n 0, 1) := by decide +kernel
theorem dX7_choose_89 : decode cX7_choose 89 = .ok (.getfield 54, 3) := by decide +kernel
theorem dX7_choose_92 : decode cX7_choose 92 = .ok (.iload_n 1, 1) := by decide +kernel
theorem dX7_choose_93 : decode cX7_choose 93 = .ok (.iaload, 1) := by decide +kernel
theorem dX7_choose_94 : decode cX7_choose 94 = .ok (.iastore, 1) := by decide +kernel
theorem dX7_choose_95 : decode cX7_choose 95 = .ok (.aload_n 0, 1) := by decide +kernel
theorem dX7_choose_96 : decode cX7_choose 96 = .ok (.getfield 35, 3) := by decide +kernel
theorem dX7_choose_99 : decode cX7_choose 99 = .ok (.aload_n 0, 1) := by decide +kernel
theorem dX7_choose_100 : decode cX7_choose 100 = .ok (.getfield 86, 3) := by decide +kernel
theorem dX7_choose_103 : decode cX7_choose 103 = .ok (.iconst 0, 1) := by decide +kernel
theorem dX7_choose_104 : decode cX7_choose 104 = .ok (.bastore, 1) := by decide +kernel
theorem dX7_choose_105 : decode cX7_choose 105 = .ok (.aload_n 0, 1) := by decide +kernel
theorem dX7_choose_106 : decode cX7_choose 106 = .ok (.getfield 39, 3) := by decide +kernel
theorem dX7_choose_109 : decode cX7_choose 109 = .ok (.aload_n 0, 1) := by decide +kernel
theorem dX7_choose_110 : decode cX7_choose 110 = .ok (.getfield 86, 3) := by decide +kernel
theorem dX7_choose_113 : decode cX7_choose 113 = .ok (.iconst 0, 1) := by decide +kernel
theorem dX7_choose_114 : decode cX7_choose 114 = .ok (.bastore, 1) := by decide +kernel
theorem dX7_choose_115 : decode cX7_choose 115 = .ok (.aload_n 0, 1) := by decide +kernel
theorem dX7_choose_116 : decode cX7_choose 116 = .ok (.iconst 0, 1) := by decide +kernel
theorem dX7_choose_117 : decode cX7_choose 117 = .ok (.putfield 120, 3) := by decide +kernel
theorem dX7_choose_120 : decode cX7_choose 120 = .ok (.aload_n 0, 1) := by decide +kernel
theorem dX7_choose_121 : decode cX7_choose 121 = .ok (.dup, 1) := by decide +kernel
theorem dX7_choose_122 : decode cX7_choose 122 = .ok (.getfield 86, 3) := by decide +kernel
theorem dX7_choose_125 : decode cX7_choose 125 = .ok (.iconst 1, 1) := by decide +kernel
theorem dX7_choose_126 : decode cX7_choose 126 = .ok (.iadd, 1) := by decide +kernel
theorem dX7_choose_127 : decode cX7_choose 127 = .ok (.putfield 86, 3) := by decide +kernel
theorem dX7_choose_130 : decode cX7_choose 130 = .ok (.aload_n 0, 1) := by decide +kernel
theorem dX7_choose_131 : decode cX7_choose 131 = .ok (.getfield 86, 3) := by decide +kernel
theorem dX7_choose_134 : decode cX7_choose 134 = .ok (.iconst 1, 1) := by decide +kernel
theorem dX7_choose_135 : decode cX7_choose 135 = .ok (.isub, 1) := by decide +kernel
theorem dX7_choose_136 : decode cX7_choose 136 = .ok (.ireturn, 1) := by decide +kernel
theorem dX7_mend_0 : decode cX7_mend 0 = .ok (.aload_n 0, 1) := by decide +kernel
theorem dX7_mend_1 : decode cX7_mend 1 = .ok (.getfield 86, 3) := by decide +kernel
theorem dX7_mend_4 : decode cX7_mend 4 = .ok (.ifCond .le 47, 3) := by decide +kernel
theorem dX7_mend_7 : decode cX7_mend 7 = .ok (.aload_n 0, 1) := by decide +kernel
theorem dX7_mend_8 : decode cX7_mend 8 = .ok (.iload_n 2, 1) := by decide +kernel
theorem dX7_mend_9 : decode cX7_mend 9 = .ok (.invokevirtual 96, 3) := by decide +kernel
theorem dX7_mend_12 : decode cX7_mend 12 = .ok (.ifCond .eq 39, 3) := by decide +kernel
theorem dX7_mend_15 : decode cX7_mend 15 = .ok (.iload_n 1, 1) := by decide +kernel
theorem dX7_mend_16 : decode cX7_mend 16 = .ok (.iconst 0, 1) := by decide +kernel
theorem dX7_mend_17 : decode cX7_mend 17 = .ok (.aload_n 0, 1) := by decide +kernel
theorem dX7_mend_18 : decode cX7_mend 18 = .ok (.getfield 26, 3) := by decide +kernel
theorem dX7_mend_21 : decode cX7_mend 21 = .ok (.aload_n 0, 1) := by decide +kernel
theorem dX7_mend_22 : decode cX7_mend 22 = .ok (.getfield 86, 3) := by decide +kernel
theorem dX7_mend_25 : decode cX7_mend 25 = .ok (.ifCond .le 12, 3) := by decide +kernel
theorem dX7_mend_28 : decode cX7_mend 28 = .ok (.aload_n 0, 1) := by decide +kernel
theorem dX7_mend_29 : decode cX7_mend 29 = .ok (.getfield 86, 3) := by decide +kernel
theorem dX7_mend_32 : decode cX7_mend 32 = .ok (.iconst 1, 1) := by decide +kernel
theorem dX7_mend_33 : decode cX7_mend 33 = .ok (.isub, 1) := by decide +kernel
theorem dX7_mend_34 : decode cX7_mend 34 = .ok (.goto 4, 3) := by decide +kernel
theorem dX7_mend_37 : decode cX7_mend 37 = .ok (.iconst 0, 1) := by decide +kernel
theorem dX7_mend_38 : decode cX7_mend 38 = .ok (.iaload, 1) := by decide +kernel
theorem dX7_mend_39 : decode cX7_mend 39 = .ok (.iconst 1, 1) := by decide +kernel
theorem dX7_mend_40 : decode cX7_mend 40 = .ok (.isub, 1) := by decide +kernel
theorem dX7_mend_41 : decode cX7_mend 41 = .ok (.invokestatic 79, 3) := by decide +kernel
theorem dX7_mend_44 : decode cX7_mend 44 = .ok (.ifCond .eq 7, 3) := by decide +kernel
theorem dX7_mend_47 : decode cX7_mend 47 = .ok (.iconst 1, 1) := by decide +kernel
theorem dX7_mend_48 : decode cX7_mend 48 = .ok (.goto 4, 3) := by decide +kernel
theorem dX7_mend_51 : decode cX7_mend 51 = .ok (.iconst 0, 1) := by decide +kernel
theorem dX7_mend_52 : decode cX7_mend 52 = .ok (.istore_n 3, 1) := by decide +kernel
theorem dX7_mend_53 : decode cX7_mend 53 = .ok (.aload_n 0, 1) := by decide +kernel
theorem dX7_mend_54 : decode cX7_mend 54 = .ok (.iload_n 3, 1) := by decide +kernel
theorem dX7_mend_55 : decode cX7_mend 55 = .ok (.aload_n 0, 1) := by decide +kernel
theorem dX7_mend_56 : decode cX7_mend 56 = .ok (.getfield 120, 3) := by decide +kernel
theorem dX7_mend_59 : decode cX7_mend 59 = .ok (.ifCond .ne 7, 3) := by decide +kernel
theorem dX7_mend_62 : decode cX7_mend 62 = .ok (.iconst 1, 1) := by decide +kernel
theorem dX7_mend_63 : decode cX7_mend 63 = .ok (.goto 4, 3) := by decide +kernel
theorem dX7_mend_66 : decode cX7_mend 66 = .ok (.iconst 0, 1) := by decide +kernel
theorem dX7_mend_67 : decode cX7_mend 67 = .ok (.iconst 1, 1) := by decide +kernel
theorem dX7_mend_68 : decode cX7_mend 68 = .ok (.invokevirtual 92, 3) := by decide +kernel
theorem dX7_mend_71 : decode cX7_mend 71 = .ok (.ifCond .ne 5, 3) := by decide +kernel
theorem dX7_mend_74 : decode cX7_mend 74 = .ok (.iconst 0, 1) := by decide +kernel
theorem dX7_mend_75 : decode cX7_mend 75 = .ok (.ireturn, 1) := by decide +kernel
theorem dX7_mend_76 : decode cX7_mend 76 = .ok (.aload_n 0, 1) := by decide +kernel
theorem dX7_mend_77 : decode cX7_mend 77 = .ok (.aload_n 0, 1) := by decide +kernel
theorem dX7_mend_78 : decode cX7_mend 78 = .ok (.getfield 86, 3) := by decide +kernel
theorem dX7_mend_81 : decode cX7_mend 81 = .ok (.iconst 1, 1) := by decide +kernel
theorem dX7_mend_82 : decode cX7_mend 82 = .ok (.isub, 1) := by decide +kernel
theorem dX7_mend_83 : decode cX7_mend 83 = .ok (.invokevirtual 183, 3) := by decide +kernel
theorem dX7_mend_86 : decode cX7_mend 86 = .ok (.aload_n 0, 1) := by decide +kernel
theorem dX7_mend_87 : decode cX7_mend 87 = .ok (.getfield 70, 3) := by decide +kernel
theorem dX7_mend_90 : decode cX7_mend 90 = .ok (.iload_n 1, 1) := by decide +kernel
theorem dX7_mend_91 : decode cX7_mend 91 = .ok (.iload_n 2, 1) := by decide +kernel
theorem dX7_mend_92 : decode cX7_mend 92 = .ok (.iastore, 1) := by decide +kernel
theorem dX7_mend_93 : decode cX7_mend 93 = .ok (.aload_n 0, 1) := by decide +kernel
theorem dX7_mend_94 : decode cX7_mend 94 = .ok (.aload_n 0, 1) := by decide +kernel
theorem dX7_mend_95 : decode cX7_mend 95 = .ok (.getfield 86, 3) := by decide +kernel
theorem dX7_mend_98 : decode cX7_mend 98 = .ok (.iconst 1, 1) := by decide +kernel
theorem dX7_mend_99 : decode cX7_mend 99 = .ok (.isub, 1) := by decide +kernel
theorem dX7_mend_100 : decode cX7_mend 100 = .ok (.iconst (-1), 1) := by decide +kernel
theorem dX7_mend_101 : decode cX7_mend 101 = .ok (.invokevirtual 179, 3) := by decide +kernel
theorem dX7_mend_104 : decode cX7_mend 104 = .ok (.istore 4, 2) := by decide +kernel
theorem dX7_mend_106 : decode cX7_mend 106 = .ok (.iload 4, 2) := by decide +kernel
theorem dX7_mend_108 : decode cX7_mend 108 = .ok (.ifCond .le 15, 3) := by decide +kernel
theorem dX7_mend_111 : decode cX7_mend 111 = .ok (.aload_n 0, 1) := by decide +kernel
theorem dX7_mend_112 : decode cX7_mend 112 = .ok (.aload_n 0, 1) := by decide +kernel
theorem dX7_mend_113 : decode cX7_mend 113 = .ok (.getfield 155, 3) := by decide +kernel
theorem dX7_mend_116 : decode cX7_mend 116 = .ok (.putfield 57, 3) := by decide +kernel
theorem dX7_mend_119 : decode cX7_mend 119 = .ok (.iload 4, 2) := by decide +kernel
theorem dX7_mend_121 : decode cX7_mend 121 = .ok (.ineg, 1) := by decide +kernel
theorem dX7_mend_122 : decode cX7_mend 122 = .ok (.ireturn, 1) := by decide +kernel
theorem dX7_mend_123 : decode cX7_mend 123 = .ok (.aload_n 0, 1) := by decide +kernel
theorem dX7_mend_124 : decode cX7_mend 124 = .ok (.getfield 23, 3) := by decide +kernel
theorem dX7_mend_127 : decode cX7_mend 127 = .ok (.bipush 6, 2) := by decide +kernel
theorem dX7_mend_129 : decode cX7_mend 129 = .ok (.aload_n 0, 1) := by decide +kernel
theorem dX7_mend_130 : decode cX7_mend 130 = .ok (.getfield 86, 3) := by decide +kernel
theorem dX7_mend_133 : decode cX7_mend 133 = .ok (.iconst 1, 1) := by decide +kernel
theorem dX7_mend_134 : decode cX7_mend 134 = .ok (.isub, 1) := by decide +kernel
theorem dX7_mend_135 : decode cX7_mend 135 = .ok (.imul, 1) := by decide +kernel
theorem dX7_mend_136 : decode cX7_mend 136 = .ok (.iload_n 1, 1) := by decide +kernel
theorem dX7_mend_137 : decode cX7_mend 137 = .ok (.iadd, 1) := by decide +kernel
theorem dX7_mend_138 : decode cX7_mend 138 = .ok (.iload_n 2, 1) := by decide +kernel
theorem dX7_mend_139 : decode cX7_mend 139 = .ok (.iastore, 1) := by decide +kernel
theorem dX7_mend_140 : decode cX7_mend 140 = .ok (.aload_n 0, 1) := by decide +kernel
theorem dX7_mend_141 : decode cX7_mend 141 = .ok (.getfield 39, 3) := by decide +kernel
theorem dX7_mend_144 : decode cX7_mend 144 = .ok (.aload_n 0, 1) := by decide +kernel
theorem dX7_mend_145 : decode cX7_mend 145 = .ok (.getfield 86, 3) := by decide +kernel
theorem dX7_mend_148 : decode cX7_mend 148 = .ok (.iconst 1, 1) := by decide +kernel
theorem dX7_mend_149 : decode cX7_mend 149 = .ok (.isub, 1) := by decide +kernel
theorem dX7_mend_150 : decode cX7_mend 150 = .ok (.iconst 1, 1) := by decide +kernel
theorem dX7_mend_151 : decode cX7_mend 151 = .ok (.bastore, 1) := by decide +kernel
theorem dX7_mend_152 : decode cX7_mend 152 = .ok (.iconst 0, 1) := by decide +kernel
theorem dX7_mend_153 : decode cX7_mend 153 = .ok (.ireturn, 1) := by decide +kernel
theorem dX7_give_0 : decode cX7_give 0 = .ok (.aload_n 0, 1) := by decide +kernel
theorem dX7_give_1 : decode cX7_give 1 = .ok (.iload_n 1, 1) := by decide +kernel
theorem dX7_give_2 : decode cX7_give 2 = .ok (.iconst 0, 1) := by decide +kernel
theorem dX7_give_3 : decode cX7_give 3 = .ok (.iconst 3, 1) := by decide +kernel
theorem dX7_give_4 : decode cX7_give 4 = .ok (.invokestatic 79, 3) := by decide +kernel
theorem dX7_give_7 : decode cX7_give 7 = .ok (.ifCond .eq 15, 3) := by decide +kernel
theorem dX7_give_10 : decode cX7_give 10 = .ok (.aload_n 0, 1) := by decide +kernel
theorem dX7_give_11 : decode cX7_give 11 = .ok (.iload_n 2, 1) := by decide +kernel
theorem dX7_give_12 : decode cX7_give 12 = .ok (.invokevirtual 187, 3) := by decide +kernel
theorem dX7_give_15 : decode cX7_give 15 = .ok (.ifCond .eq 7, 3) := by decide +kernel
theorem dX7_give_18 : decode cX7_give 18 = .ok (.iconst 1, 1) := by decide +kernel
theorem dX7_give_19 : decode cX7_give 19 = .ok (.goto 4, 3) := by decide +kernel
theorem dX7_give_22 : decode cX7_give 22 = .ok (.iconst 0, 1) := by decide +kernel
theorem dX7_give_23 : decode cX7_give 23 = .ok (.iload_n 3, 1) := by decide +kernel
theorem dX7_give_24 : decode cX7_give 24 = .ok (.iconst 0, 1) := by decide +kernel
theorem dX7_give_25 : decode cX7_give 25 = .ok (.bipush 10, 2) := by decide +kernel
theorem dX7_give_27 : decode cX7_give 27 = .ok (.invokestatic 79, 3) := by decide +kernel
theorem dX7_give_30 : decode cX7_give 30 = .ok (.iconst 1, 1) := by decide +kernel
theorem dX7_give_31 : decode cX7_give 31 = .ok (.invokevirtual 92, 3) := by decide +kernel
theorem dX7_give_34 : decode cX7_give 34 = .ok (.ifCond .ne 5, 3) := by decide +kernel
theorem dX7_give_37 : decode cX7_give 37 = .ok (.iconst 0, 1) := by decide +kernel
theorem dX7_give_38 : decode cX7_give 38 = .ok (.ireturn, 1) := by decide +kernel
theorem dX7_give_39 : decode cX7_give 39 = .ok (.aload_n 0, 1) := by decide +kernel
theorem dX7_give_40 : decode cX7_give 40 = .ok (.getfield 42, 3) := by decide +kernel
theorem dX7_give_43 : decode cX7_give 43 = .ok (.bipush 36, 2) := by decide +kernel
theorem dX7_give_45 : decode cX7_give 45 = .ok (.iload_n 1, 1) := by decide +kernel
theorem dX7_give_46 : decode cX7_give 46 = .ok (.imul, 1) := by decide +kernel
theorem dX7_give_47 : decode cX7_give 47 = .ok (.iload_n 2, 1) := by decide +kernel
theorem dX7_give_48 : decode cX7_give 48 = .ok (.iadd, 1) := by decide +kernel
theorem dX7_give_49 : decode cX7_give 49 = .ok (.iaload, 1) := by decide +kernel
theorem dX7_give_50 : decode cX7_give 50 = .ok (.iconst 1, 1) := by decide +kernel
theorem dX7_give_51 : decode cX7_give 51 = .ok (.isub, 1) := by decide +kernel
theorem dX7_give_52 : decode cX7_give 52 = .ok (.istore 4, 2) := by decide +kernel
theorem dX7_give_54 : decode cX7_give 54 = .ok (.aload_n 0, 1) := by decide +kernel
theorem dX7_give_55 : decode cX7_give 55 = .ok (.getfield 42, 3) := by decide +kernel
theorem dX7_give_58 : decode cX7_give 58 = .ok (.bipush 36, 2) := by decide +kernel
theorem dX7_give_60 : decode cX7_give 60 = .ok (.iload_n 1, 1) := by decide +kernel
theorem dX7_give_61 : decode cX7_give 61 = .ok (.imul, 1) := by decide +kernel
theorem dX7_give_62 : decode cX7_give 62 = .ok (.iload_n 2, 1) := by decide +kernel
theorem dX7_give_63 : decode cX7_give 63 = .ok (.iadd, 1) := by decide +kernel
theorem dX7_give_64 : decode cX7_give 64 = .ok (.iload_n 3, 1) := by decide +kernel
theorem dX7_give_65 : decode cX7_give 65 = .ok (.iconst 1, 1) := by decide +kernel
theorem dX7_give_66 : decode cX7_give 66 = .ok (.iadd, 1) := by decide +kernel
theorem dX7_give_67 : decode cX7_give 67 = .ok (.iastore, 1) := by decide +kernel
theorem dX7_give_68 : decode cX7_give 68 = .ok (.iload 4, 2) := by decide +kernel
theorem dX7_give_70 : decode cX7_give 70 = .ok (.ireturn, 1) := by decide +kernel
theorem dX7_copy_0 : decode cX7_copy 0 = .ok (.aload_n 0, 1) := by decide +kernel
theorem dX7_copy_1 : decode cX7_copy 1 = .ok (.iload_n 1, 1) := by decide +kernel
theorem dX7_copy_2 : decode cX7_copy 2 = .ok (.iconst (-1), 1) := by decide +kernel
theorem dX7_copy_3 : decode cX7_copy 3 = .ok (.if_icmp .eq 17, 3) := by decide +kernel
theorem dX7_copy_6 : decode cX7_copy 6 = .ok (.iload_n 1, 1) := by decide +kernel
theorem dX7_copy_7 : decode cX7_copy 7 = .ok (.iconst 0, 1) := by decide +kernel
theorem dX7_copy_8 : decode cX7_copy 8 = .ok (.aload_n 0, 1) := by decide +kernel
theorem dX7_copy_9 : decode cX7_copy 9 = .ok (.getfield 123, 3) := by decide +kernel
theorem dX7_copy_12 : decode cX7_copy 12 = .ok (.iconst 1, 1) := by decide +kernel
theorem dX7_copy_13 : decode cX7_copy 13 = .ok (.isub, 1) := by decide +kernel
theorem dX7_copy_14 : decode cX7_copy 14 = .ok (.invokestatic 79, 3) := by decide +kernel
theorem dX7_copy_17 : decode cX7_copy 17 = .ok (.ifCond .eq 7, 3) := by decide +kernel
theorem dX7_copy_20 : decode cX7_copy 20 = .ok (.iconst 1, 1) := by decide +kernel
theorem dX7_copy_21 : decode cX7_copy 21 = .ok (.goto 4, 3) := by decide +kernel
theorem dX7_copy_24 : decode cX7_copy 24 = .ok (.iconst 0, 1) := by decide +kernel
theorem dX7_copy_25 : decode cX7_copy 25 = .ok (.aload_n 0, 1) := by decide +kernel
theorem dX7_copy_26 : decode cX7_copy 26 = .ok (.getfield 103, 3) := by decide +kernel
theorem dX7_copy_29 : decode cX7_copy 29 = .ok (.ifCond .eq 16, 3) := by decide +kernel
theorem dX7_copy_32 : decode cX7_copy 32 = .ok (.aload_n 0, 1) := by decide +kernel
theorem dX7_copy_33 : decode cX7_copy 33 = .ok (.getfield 123, 3) := by decide +kernel
theorem dX7_copy_36 : decode cX7_copy 36 = .ok (.bipush 8, 2) := by decide +kernel
theorem dX7_copy_38 : decode cX7_copy 38 = .ok (.if_icmp .ge 7, 3) := by decide +kernel
theorem dX7_copy_41 : decode cX7_copy 41 = .ok (.iconst 1, 1) := by decide +kernel
theorem dX7_copy_42 : decode cX7_copy 42 = .ok (.goto 4, 3) := by decide +kernel
theorem dX7_copy_45 : decode cX7_copy 45 = .ok (.iconst 0, 1) := by decide +kernel
theorem dX7_copy_46 : decode cX7_copy 46 = .ok (.iconst 1, 1) := by decide +kernel
theorem dX7_copy_47 : decode cX7_copy 47 = .ok (.invokevirtual 92, 3) := by decide +kernel
theorem dX7_copy_50 : decode cX7_copy 50 = .ok (.ifCond .ne 5, 3) := by decide +kernel
theorem dX7_copy_53 : decode cX7_copy 53 = .ok (.iconst 0, 1) := by decide +kernel
theorem dX7_copy_54 : decode cX7_copy 54 = .ok (.ireturn, 1) := by decide +kernel
theorem dX7_copy_55 : decode cX7_copy 55 = .ok (.aload_n 0, 1) := by decide +kernel
theorem dX7_copy_56 : decode cX7_copy 56 = .ok (.getfield 67, 3) := by decide +kernel
theorem dX7_copy_59 : decode cX7_copy 59 = .ok (.aload_n 0, 1) := by decide +kernel
theorem dX7_copy_60 : decode cX7_copy 60 = .ok (.getfield 123, 3) := by decide +kernel
theorem dX7_copy_63 : decode cX7_copy 63 = .ok (.aload_n 0, 1) := by decide +kernel
theorem dX7_copy_64 : decode cX7_copy 64 = .ok (.iload_n 1, 1) := by decide +kernel
theorem dX7_copy_65 : decode cX7_copy 65 = .ok (.invokevirtual 190, 3) := by decide +kernel
theorem dX7_copy_68 : decode cX7_copy 68 = .ok (.iastore, 1) := by decide +kernel
theorem dX7_copy_69 : decode cX7_copy 69 = .ok (.iconst 0, 1) := by decide +kernel
theorem dX7_copy_70 : decode cX7_copy 70 = .ok (.istore_n 2, 1) := by decide +kernel
theorem dX7_copy_71 : decode cX7_copy 71 = .ok (.iload_n 2, 1) := by decide +kernel
theorem dX7_copy_72 : decode cX7_copy 72 = .ok (.aload_n 0, 1) := by decide +kernel
theorem dX7_copy_73 : decode cX7_copy 73 = .ok (.iload_n 1, 1) := by decide +kernel
theorem dX7_copy_74 : decode cX7_copy 74 = .ok (.invokevirtual 190, 3) := by decide +kernel
theorem dX7_copy_77 : decode cX7_copy 77 = .ok (.if_icmp .ge 74, 3) := by decide +kernel
theorem dX7_copy_80 : decode cX7_copy 80 = .ok (.aload_n 0, 1) := by decide +kernel
theorem dX7_copy_81 : decode cX7_copy 81 = .ok (.getfield 64, 3) := by decide +kernel
theorem dX7_copy_84 : decode cX7_copy 84 = .ok (.bipush 36, 2) := by decide +kernel
theorem dX7_copy_86 : decode cX7_copy 86 = .ok (.aload_n 0, 1) := by decide +kernel
theorem dX7_copy_87 : decode cX7_copy 87 = .ok (.getfield 123, 3) := by decide +kernel
theorem dX7_copy_90 : decode cX7_copy 90 = .ok (.imul, 1) := by decide +kernel
theorem dX7_copy_91 : decode cX7_copy 91 = .ok (.iload_n 2, 1) := by decide +kernel
theorem dX7_copy_92 : decode cX7_copy 92 = .ok (.iadd, 1) := by decide +kernel
theorem dX7_copy_93 : decode cX7_copy 93 = .ok (.aload_n 0, 1) := by decide +kernel
theorem dX7_copy_94 : decode cX7_copy 94 = .ok (.iload_n 1, 1) := by decide +kernel
theorem dX7_copy_95 : decode cX7_copy 95 = .ok (.iload_n 2, 1) := by decide +kernel
theorem dX7_copy_96 : decode cX7_copy 96 = .ok (.invokevirtual 193, 3) := by decide +kernel
theorem dX7_copy_99 : decode cX7_copy 99 = .ok (.iastore, 1) := by decide +kernel
theorem dX7_copy_100 : decode cX7_copy 100 = .ok (.iconst 0, 1) := by decide +kernel
theorem dX7_copy_101 : decode cX7_copy 101 = .ok (.istore_n 3, 1) := by decide +kernel
theorem dX7_copy_102 : decode cX7_copy 102 = .ok (.iload_n 3, 1) := by decide +kernel
theorem dX7_copy_103 : decode cX7_copy 103 = .ok (.aload_n 0, 1) := by decide +kernel
theorem dX7_copy_104 : decode cX7_copy 104 = .ok (.iload_n 1, 1) := by decide +kernel
theorem dX7_copy_105 : decode cX7_copy 105 = .ok (.iload_n 2, 1) := by decide +kernel
theorem dX7_copy_106 : decode cX7_copy 106 = .ok (.invokevirtual 193, 3) := by decide +kernel
theorem dX7_copy_109 : decode cX7_copy 109 = .ok (.if_icmp .ge 36, 3) := by decide +kernel
theorem dX7_copy_112 : decode cX7_copy 112 = .ok (.aload_n 0, 1) := by decide +kernel
theorem dX7_copy_113 : decode cX7_copy 113 = .ok (.getfield 61, 3) := by decide +kernel
theorem dX7_copy_116 : decode cX7_copy 116 = .ok (.sipush 216, 3) := by decide +kernel
theorem dX7_copy_119 : decode cX7_copy 119 = .ok (.aload_n 0, 1) := by decide +kernel
theorem dX7_copy_120 : decode cX7_copy 120 = .ok (.getfield 123, 3) := by decide +kernel
theorem dX7_copy_123 : decode cX7_copy 123 = .ok (.imul, 1) := by decide +kernel
theorem dX7_copy_124 : decode cX7_copy 124 = .ok (.bipush 6, 2) := by decide +kernel
theorem dX7_copy_126 : decode cX7_copy 126 = .ok (.iload_n 2, 1) := by decide +kernel
theorem dX7_copy_127 : decode cX7_copy 127 = .ok (.imul, 1) := by decide +kernel
theorem dX7_copy_128 : decode cX7_copy 128 = .ok (.iadd, 1) := by decide +kernel
theorem dX7_copy_129 : decode cX7_copy 129 = .ok (.iload_n 3, 1) := by decide +kernel
theorem dX7_copy_130 : decode cX7_copy 130 = .ok (.iadd, 1) := by decide +kernel
theorem dX7_copy_131 : decode cX7_copy 131 = .ok (.aload_n 0, 1) := by decide +kernel
theorem dX7_copy_132 : decode cX7_copy 132 = .ok (.iload_n 1, 1) := by decide +kernel
theorem dX7_copy_133 : decode cX7_copy 133 = .ok (.iload_n 2, 1) := by decide +kernel
theorem dX7_copy_134 : decode cX7_copy 134 = .ok (.iload_n 3, 1) := by decide +kernel
theorem dX7_copy_135 : decode cX7_copy 135 = .ok (.invokevirtual 196, 3) := by decide +kernel
theorem dX7_copy_138 : decode cX7_copy 138 = .ok (.iastore, 1) := by decide +kernel
theorem dX7_copy_139 : decode cX7_copy 139 = .ok (.iinc 3 1, 3) := by decide +kernel
theorem dX7_copy_142 : decode cX7_copy 142 = .ok (.goto (-40), 3) := by decide +kernel
theorem dX7_copy_145 : decode cX7_copy 145 = .ok (.iinc 2 1, 3) := by decide +kernel
theorem dX7_copy_148 : decode cX7_copy 148 = .ok (.goto (-77), 3) := by decide +kernel
theorem dX7_copy_151 : decode cX7_copy 151 = .ok (.aload_n 0, 1) := by decide +kernel
theorem dX7_copy_152 : decode cX7_copy 152 = .ok (.dup, 1) := by decide +kernel
theorem dX7_copy_153 : decode cX7_copy 153 = .ok (.getfield 123, 3) := by decide +kernel
theorem dX7_copy_156 : decode cX7_copy 156 = .ok (.iconst 1, 1) := by decide +kernel
theorem dX7_copy_157 : decode cX7_copy 157 = .ok (.iadd, 1) := by decide +kernel
theorem dX7_copy_158 : decode cX7_copy 158 = .ok (.putfield 123, 3) := by decide +kernel
theorem dX7_copy_161 : decode cX7_copy 161 = .ok (.aload_n 0, 1) := by decide +kernel
theorem dX7_copy_162 : decode cX7_copy 162 = .ok (.getfield 123, 3) := by decide +kernel
theorem dX7_copy_165 : decode cX7_copy 165 = .ok (.iconst 1, 1) := by decide +kernel
theorem dX7_copy_166 : decode cX7_copy 166 = .ok (.isub, 1) := by decide +kernel
theorem dX7_copy_167 : decode cX7_copy 167 = .ok (.ireturn, 1) := by decide +kernel
theorem dX7_linksOf_0 : decode cX7_linksOf 0 = .ok (.iload_n 1, 1) := by decide +kernel
theorem dX7_linksOf_1 : decode cX7_linksOf 1 = .ok (.iconst (-1), 1) := by decide +kernel
theorem dX7_linksOf_2 : decode cX7_linksOf 2 = .ok (.if_icmp .ne 10, 3) := by decide +kernel
theorem dX7_linksOf_5 : decode cX7_linksOf 5 = .ok (.aload_n 0, 1) := by decide +kernel
theorem dX7_linksOf_6 : decode cX7_linksOf 6 = .ok (.getfield 86, 3) := by decide +kernel
theorem dX7_linksOf_9 : decode cX7_linksOf 9 = .ok (.goto 9, 3) := by decide +kernel
theorem dX7_linksOf_12 : decode cX7_linksOf 12 = .ok (.aload_n 0, 1) := by decide +kernel
theorem dX7_linksOf_13 : decode cX7_linksOf 13 = .ok (.getfield 67, 3) := by decide +kernel
theorem dX7_linksOf_16 : decode cX7_linksOf 16 = .ok (.iload_n 1, 1) := by decide +kernel
theorem dX7_linksOf_17 : decode cX7_linksOf 17 = .ok (.iaload, 1) := by decide +kernel
theorem dX7_linksOf_18 : decode cX7_linksOf 18 = .ok (.ireturn, 1) := by decide +kernel
theorem dX7_sizeOf_0 : decode cX7_sizeOf 0 = .ok (.iload_n 2, 1) := by decide +kernel
theorem dX7_sizeOf_1 : decode cX7_sizeOf 1 = .ok (.aload_n 0, 1) := by decide +kernel
theorem dX7_sizeOf_2 : decode cX7_sizeOf 2 = .ok (.iload_n 1, 1) := by decide +kernel
theorem dX7_sizeOf_3 : decode cX7_sizeOf 3 = .ok (.invokevirtual 190, 3) := by decide +kernel
theorem dX7_sizeOf_6 : decode cX7_sizeOf 6 = .ok (.if_icmp .lt 7, 3) := by decide +kernel
theorem dX7_sizeOf_9 : decode cX7_sizeOf 9 = .ok (.iconst 0, 1) := by decide +kernel
theorem dX7_sizeOf_10 : decode cX7_sizeOf 10 = .ok (.goto 28, 3) := by decide +kernel
theorem dX7_sizeOf_13 : decode cX7_sizeOf 13 = .ok (.iload_n 1, 1) := by decide +kernel
theorem dX7_sizeOf_14 : decode cX7_sizeOf 14 = .ok (.iconst (-1), 1) := by decide +kernel
theorem dX7_sizeOf_15 : decode cX7_sizeOf 15 = .ok (.if_icmp .ne 12, 3) := by decide +kernel
theorem dX7_sizeOf_18 : decode cX7_sizeOf 18 = .ok (.aload_n 0, 1) := by decide +kernel
theorem dX7_sizeOf_19 : decode cX7_sizeOf 19 = .ok (.getfield 26, 3) := by decide +kernel
theorem dX7_sizeOf_22 : decode cX7_sizeOf 22 = .ok (.iload_n 2, 1) := by decide +kernel
theorem dX7_sizeOf_23 : decode cX7_sizeOf 23 = .ok (.iaload, 1) := by decide +kernel
theorem dX7_sizeOf_24 : decode cX7_sizeOf 24 = .ok (.goto 14, 3) := by decide +kernel
theorem dX7_sizeOf_27 : decode cX7_sizeOf 27 = .ok (.aload_n 0, 1) := by decide +kernel
theorem dX7_sizeOf_28 : decode cX7_sizeOf 28 = .ok (.getfield 64, 3) := by decide +kernel
theorem dX7_sizeOf_31 : decode cX7_sizeOf 31 = .ok (.bipush 36, 2) := by decide +kernel
theorem dX7_sizeOf_33 : decode cX7_sizeOf 33 = .ok (.iload_n 1, 1) := by decide +kernel
theorem dX7_sizeOf_34 : decode cX7_sizeOf 34 = .ok (.imul, 1) := by decide +kernel
theorem dX7_sizeOf_35 : decode cX7_sizeOf 35 = .ok (.iload_n 2, 1) := by decide +kernel
theorem dX7_sizeOf_36 : decode cX7_sizeOf 36 = .ok (.iadd, 1) := by decide +kernel
theorem dX7_sizeOf_37 : decode cX7_sizeOf 37 = .ok (.iaload, 1) := by decide +kernel
theorem dX7_sizeOf_38 : decode cX7_sizeOf 38 = .ok (.ireturn, 1) := by decide +kernel
theorem dX7_wordOf_0 : decode cX7_wordOf 0 = .ok (.iload_n 1, 1) := by decide +kernel
theorem dX7_wordOf_1 : decode cX7_wordOf 1 = .ok (.iconst (-1), 1) := by decide +kernel
theorem dX7_wordOf_2 : decode cX7_wordOf 2 = .ok (.if_icmp .ne 17, 3) := by decide +kernel
theorem dX7_wordOf_5 : decode cX7_wordOf 5 = .ok (.aload_n 0, 1) := by decide +kernel
theorem dX7_wordOf_6 : decode cX7_wordOf 6 = .ok (.getfield 23, 3) := by decide +kernel
theorem dX7_wordOf_9 : decode cX7_wordOf 9 = .ok (.bipush 6, 2) := by decide +kernel
theorem dX7_wordOf_11 : decode cX7_wordOf 11 = .ok (.iload_n 2, 1) := by decide +kernel
theorem dX7_wordOf_12 : decode cX7_wordOf 12 = .ok (.imul, 1) := by decide +kernel
theorem dX7_wordOf_13 : decode cX7_wordOf 13 = .ok (.iload_n 3, 1) := by decide +kernel
theorem dX7_wordOf_14 : decode cX7_wordOf 14 = .ok (.iadd, 1) := by decide +kernel
theorem dX7_wordOf_15 : decode cX7_wordOf 15 = .ok (.iaload, 1) := by decide +kernel
theorem dX7_wordOf_16 : decode cX7_wordOf 16 = .ok (.goto 20, 3) := by decide +kernel
theorem dX7_wordOf_19 : decode cX7_wordOf 19 = .ok (.aload_n 0, 1) := by decide +kernel
theorem dX7_wordOf_20 : decode cX7_wordOf 20 = .ok (.getfield 61, 3) := by decide +kernel
theorem dX7_wordOf_23 : decode cX7_wordOf 23 = .ok (.sipush 216, 3) := by decide +kernel
theorem dX7_wordOf_26 : decode cX7_wordOf 26 = .ok (.iload_n 1, 1) := by decide +kernel
theorem dX7_wordOf_27 : decode cX7_wordOf 27 = .ok (.imul, 1) := by decide +kernel
theorem dX7_wordOf_28 : decode cX7_wordOf 28 = .ok (.bipush 6, 2) := by decide +kernel
theorem dX7_wordOf_30 : decode cX7_wordOf 30 = .ok (.iload_n 2, 1) := by decide +kernel
theorem dX7_wordOf_31 : decode cX7_wordOf 31 = .ok (.imul, 1) := by decide +kernel
theorem dX7_wordOf_32 : decode cX7_wordOf 32 = .ok (.iadd, 1) := by decide +kernel
theorem dX7_wordOf_33 : decode cX7_wordOf 33 = .ok (.iload_n 3, 1) := by decide +kernel
theorem dX7_wordOf_34 : decode cX7_wordOf 34 = .ok (.iadd, 1) := by decide +kernel
theorem dX7_wordOf_35 : decode cX7_wordOf 35 = .ok (.iaload, 1) := by decide +kernel
theorem dX7_wordOf_36 : decode cX7_wordOf 36 = .ok (.ireturn, 1) := by decide +kernel
theorem dX7_write_0 : decode cX7_write 0 = .ok (.iload_n 1, 1) := by decide +kernel
theorem dX7_write_1 : decode cX7_write 1 = .ok (.iconst 0, 1) := by decide +kernel
theorem dX7_write_2 : decode cX7_write 2 = .ok (.aload_n 0, 1) := by decide +kernel
theorem dX7_write_3 : decode cX7_write 3 = .ok (.getfield 123, 3) := by decide +kernel
theorem dX7_write_6 : decode cX7_write 6 = .ok (.iconst 1, 1) := by decide +kernel
theorem dX7_write_7 : decode cX7_write 7 = .ok (.isub, 1) := by decide +kernel
theorem dX7_write_8 : decode cX7_write 8 = .ok (.invokestatic 79, 3) := by decide +kernel
theorem dX7_write_11 : decode cX7_write 11 = .ok (.ifCond .eq 50, 3) := by decide +kernel
theorem dX7_write_14 : decode cX7_write 14 = .ok (.iload_n 2, 1) := by decide +kernel
theorem dX7_write_15 : decode cX7_write 15 = .ok (.iconst 0, 1) := by decide +kernel
theorem dX7_write_16 : decode cX7_write 16 = .ok (.aload_n 0, 1) := by decide +kernel
theorem dX7_write_17 : decode cX7_write 17 = .ok (.getfield 67, 3) := by decide +kernel
theorem dX7_write_20 : decode cX7_write 20 = .ok (.iload_n 1, 1) := by decide +kernel
theorem dX7_write_21 : decode cX7_write 21 = .ok (.iconst 0, 1) := by decide +kernel
theorem dX7_write_22 : decode cX7_write 22 = .ok (.aload_n 0, 1) := by decide +kernel
theorem dX7_write_23 : decode cX7_write 23 = .ok (.getfield 123, 3) := by decide +kernel
theorem dX7_write_26 : decode cX7_write 26 = .ok (.iconst 1, 1) := by decide +kernel
theorem dX7_write_27 : decode cX7_write 27 = .ok (.isub, 1) := by decide +kernel
theorem dX7_write_28 : decode cX7_write 28 = .ok (.invokestatic 79, 3) := by decide +kernel
theorem dX7_write_31 : decode cX7_write 31 = .ok (.ifCond .eq 7, 3) := by decide +kernel
theorem dX7_write_34 : decode cX7_write 34 = .ok (.iload_n 1, 1) := by decide +kernel
theorem dX7_write_35 : decode cX7_write 35 = .ok (.goto 4, 3) := by decide +kernel
theorem dX7_write_38 : decode cX7_write 38 = .ok (.iconst 0, 1) := by decide +kernel
theorem dX7_write_39 : decode cX7_write 39 = .ok (.iaload, 1) := by decide +kernel
theorem dX7_write_40 : decode cX7_write 40 = .ok (.iconst 1, 1) := by decide +kernel
theorem dX7_write_41 : decode cX7_write 41 = .ok (.isub, 1) := by decide +kernel
theorem dX7_write_42 : decode cX7_write 42 = .ok (.invokestatic 79, 3) := by decide +kernel
theorem dX7_write_45 : decode cX7_write 45 = .ok (.ifCond .eq 16, 3) := by decide +kernel
theorem dX7_write_48 : decode cX7_write 48 = .ok (.aload_n 0, 1) := by decide +kernel
theorem dX7_write_49 : decode cX7_write 49 = .ok (.iload 4, 2) := by decide +kernel
theorem dX7_write_51 : decode cX7_write 51 = .ok (.invokevirtual 96, 3) := by decide +kernel
theorem dX7_write_54 : decode cX7_write 54 = .ok (.ifCond .eq 7, 3) := by decide +kernel
theorem dX7_write_57 : decode cX7_write 57 = .ok (.iconst 1, 1) := by decide +kernel
theorem dX7_write_58 : decode cX7_write 58 = .ok (.goto 4, 3) := by decide +kernel
theorem dX7_write_61 : decode cX7_write 61 = .ok (.iconst 0, 1) := by decide +kernel
theorem dX7_write_62 : decode cX7_write 62 = .ok (.istore 5, 2) := by decide +kernel
theorem dX7_write_64 : decode cX7_write 64 = .ok (.aload_n 0, 1) := by decide +kernel
theorem dX7_write_65 : decode cX7_write 65 = .ok (.iload 5, 2) := by decide +kernel
theorem dX7_write_67 : decode cX7_write 67 = .ok (.ifCond .eq 23, 3) := by decide +kernel
theorem dX7_write_70 : decode cX7_write 70 = .ok (.iload_n 3, 1) := by decide +kernel
theorem dX7_write_71 : decode cX7_write 71 = .ok (.iconst 0, 1) := by decide +kernel
theorem dX7_write_72 : decode cX7_write 72 = .ok (.aload_n 0, 1) := by decide +kernel
theorem dX7_write_73 : decode cX7_write 73 = .ok (.iload_n 1, 1) := by decide +kernel
theorem dX7_write_74 : decode cX7_write 74 = .ok (.iload_n 2, 1) := by decide +kernel
theorem dX7_write_75 : decode cX7_write 75 = .ok (.invokevirtual 193, 3) := by decide +kernel
theorem dX7_write_78 : decode cX7_write 78 = .ok (.iconst 1, 1) := by decide +kernel
theorem dX7_write_79 : decode cX7_write 79 = .ok (.isub, 1) := by decide +kernel
theorem dX7_write_80 : decode cX7_write 80 = .ok (.invokestatic 79, 3) := by decide +kernel
theorem dX7_write_83 : decode cX7_write 83 = .ok (.ifCond .eq 7, 3) := by decide +kernel
theorem dX7_write_86 : decode cX7_write 86 = .ok (.iconst 1, 1) := by decide +kernel
theorem dX7_write_87 : decode cX7_write 87 = .ok (.goto 4, 3) := by decide +kernel
theorem dX7_write_90 : decode cX7_write 90 = .ok (.iconst 0, 1) := by decide +kernel
theorem dX7_write_91 : decode cX7_write 91 = .ok (.iconst 1, 1) := by decide +kernel
theorem dX7_write_92 : decode cX7_write 92 = .ok (.iconst 1, 1) := by decide +kernel
theorem dX7_write_93 : decode cX7_write 93 = .ok (.invokevirtual 92, 3) := by decide +kernel
theorem dX7_write_96 : decode cX7_write 96 = .ok (.ifCond .ne 5, 3) := by decide +kernel
theorem dX7_write_99 : decode cX7_write 99 = .ok (.iconst 0, 1) := by decide +kernel
theorem dX7_write_100 : decode cX7_write 100 = .ok (.ireturn, 1) := by decide +kernel
theorem dX7_write_101 : decode cX7_write 101 = .ok (.sipush 216, 3) := by decide +kernel
theorem dX7_write_104 : decode cX7_write 104 = .ok (.iload_n 1, 1) := by decide +kernel
theorem dX7_write_105 : decode cX7_write 105 = .ok (.imul, 1) := by decide +kernel
theorem dX7_write_106 : decode cX7_write 106 = .ok (.bipush 6, 2) := by decide +kernel
theorem dX7_write_108 : decode cX7_write 108 = .ok (.iload_n 2, 1) := by decide +kernel
theorem dX7_write_109 : decode cX7_write 109 = .ok (.imul, 1) := by decide +kernel
theorem dX7_write_110 : decode cX7_write 110 = .ok (.iadd, 1) := by decide +kernel
theorem dX7_write_111 : decode cX7_write 111 = .ok (.iload_n 3, 1) := by decide +kernel
theorem dX7_write_112 : decode cX7_write 112 = .ok (.iadd, 1) := by decide +kernel
theorem dX7_write_113 : decode cX7_write 113 = .ok (.istore 6, 2) := by decide +kernel
theorem dX7_write_115 : decode cX7_write 115 = .ok (.aload_n 0, 1) := by decide +kernel
theorem dX7_write_116 : decode cX7_write 116 = .ok (.getfield 61, 3) := by decide +kernel
theorem dX7_write_119 : decode cX7_write 119 = .ok (.iload 6, 2) := by decide +kernel
theorem dX7_write_121 : decode cX7_write 121 = .ok (.iaload, 1) := by decide +kernel
theorem dX7_write_122 : decode cX7_write 122 = .ok (.istore 7, 2) := by decide +kernel
theorem dX7_write_124 : decode cX7_write 124 = .ok (.aload_n 0, 1) := by decide +kernel
theorem dX7_write_125 : decode cX7_write 125 = .ok (.getfield 61, 3) := by decide +kernel
theorem dX7_write_128 : decode cX7_write 128 = .ok (.iload 6, 2) := by decide +kernel
theorem dX7_write_130 : decode cX7_write 130 = .ok (.iload 4, 2) := by decide +kernel
theorem dX7_write_132 : decode cX7_write 132 = .ok (.iastore, 1) := by decide +kernel
theorem dX7_write_133 : decode cX7_write 133 = .ok (.iload 7, 2) := by decide +kernel
theorem dX7_write_135 : decode cX7_write 135 = .ok (.ireturn, 1) := by decide +kernel
theorem dX7_hide_0 : decode cX7_hide 0 = .ok (.aload_n 0, 1) := by decide +kernel
theorem dX7_hide_1 : decode cX7_hide 1 = .ok (.aload_n 0, 1) := by decide +kernel
theorem dX7_hide_2 : decode cX7_hide 2 = .ok (.iload_n 1, 1) := by decide +kernel
theorem dX7_hide_3 : decode cX7_hide 3 = .ok (.invokevirtual 187, 3) := by decide +kernel
theorem dX7_hide_6 : decode cX7_hide 6 = .ok (.iconst 1, 1) := by decide +kernel
theorem dX7_hide_7 : decode cX7_hide 7 = .ok (.iconst 1, 1) := by decide +kernel
theorem dX7_hide_8 : decode cX7_hide 8 = .ok (.invokevirtual 92, 3) := by decide +kernel
theorem dX7_hide_11 : decode cX7_hide 11 = .ok (.ifCond .ne 5, 3) := by decide +kernel
theorem dX7_hide_14 : decode cX7_hide 14 = .ok (.iconst 0, 1) := by decide +kernel
theorem dX7_hide_15 : decode cX7_hide 15 = .ok (.ireturn, 1) := by decide +kernel
theorem dX7_hide_16 : decode cX7_hide 16 = .ok (.aload_n 0, 1) := by decide +kernel
theorem dX7_hide_17 : decode cX7_hide 17 = .ok (.getfield 35, 3) := by decide +kernel
theorem dX7_hide_20 : decode cX7_hide 20 = .ok (.iload_n 1, 1) := by decide +kernel
theorem dX7_hide_21 : decode cX7_hide 21 = .ok (.baload, 1) := by decide +kernel
theorem dX7_hide_22 : decode cX7_hide 22 = .ok (.istore_n 3, 1) := by decide +kernel
theorem dX7_hide_23 : decode cX7_hide 23 = .ok (.aload_n 0, 1) := by decide +kernel
theorem dX7_hide_24 : decode cX7_hide 24 = .ok (.getfield 35, 3) := by decide +kernel
theorem dX7_hide_27 : decode cX7_hide 27 = .ok (.iload_n 1, 1) := by decide +kernel
theorem dX7_hide_28 : decode cX7_hide 28 = .ok (.iload_n 2, 1) := by decide +kernel
theorem dX7_hide_29 : decode cX7_hide 29 = .ok (.bastore, 1) := by decide +kernel
theorem dX7_hide_30 : decode cX7_hide 30 = .ok (.iload_n 3, 1) := by decide +kernel
theorem dX7_hide_31 : decode cX7_hide 31 = .ok (.ireturn, 1) := by decide +kernel
theorem dX7_links_0 : decode cX7_links 0 = .ok (.aload_n 0, 1) := by decide +kernel
theorem dX7_links_1 : decode cX7_links 1 = .ok (.iconst 0, 1) := by decide +kernel
theorem dX7_links_2 : decode cX7_links 2 = .ok (.putfield 73, 3) := by decide +kernel
theorem dX7_links_5 : decode cX7_links 5 = .ok (.aload_n 0, 1) := by decide +kernel
theorem dX7_links_6 : decode cX7_links 6 = .ok (.getfield 103, 3) := by decide +kernel
theorem dX7_links_9 : decode cX7_links 9 = .ok (.ifCond .eq 10, 3) := by decide +kernel
theorem dX7_links_12 : decode cX7_links 12 = .ok (.aload_n 0, 1) := by decide +kernel
theorem dX7_links_13 : decode cX7_links 13 = .ok (.getfield 86, 3) := by decide +kernel
theorem dX7_links_16 : decode cX7_links 16 = .ok (.goto 4, 3) := by decide +kernel
theorem dX7_links_19 : decode cX7_links 19 = .ok (.iconst 0, 1) := by decide +kernel
theorem dX7_links_20 : decode cX7_links 20 = .ok (.ireturn, 1) := by decide +kernel
theorem dX7_offers_0 : decode cX7_offers 0 = .ok (.aload_n 0, 1) := by decide +kernel
theorem dX7_offers_1 : decode cX7_offers 1 = .ok (.iconst 0, 1) := by decide +kernel
theorem dX7_offers_2 : decode cX7_offers 2 = .ok (.putfield 73, 3) := by decide +kernel
theorem dX7_offers_5 : decode cX7_offers 5 = .ok (.aload_n 0, 1) := by decide +kernel
theorem dX7_offers_6 : decode cX7_offers 6 = .ok (.getfield 120, 3) := by decide +kernel
theorem dX7_offers_9 : decode cX7_offers 9 = .ok (.ireturn, 1) := by decide +kernel
theorem dX7_ofLink_0 : decode cX7_ofLink 0 = .ok (.aload_n 0, 1) := by decide +kernel
theorem dX7_ofLink_1 : decode cX7_ofLink 1 = .ok (.aload_n 0, 1) := by decide +kernel
theorem dX7_ofLink_2 : decode cX7_ofLink 2 = .ok (.iload_n 1, 1) := by decide +kernel
theorem dX7_ofLink_3 : decode cX7_ofLink 3 = .ok (.invokevirtual 187, 3) := by decide +kernel
theorem dX7_ofLink_6 : decode cX7_ofLink 6 = .ok (.iload_n 2, 1) := by decide +kernel
theorem dX7_ofLink_7 : decode cX7_ofLink 7 = .ok (.iconst 0, 1) := by decide +kernel
theorem dX7_ofLink_8 : decode cX7_ofLink 8 = .ok (.iconst 5, 1) := by decide +kernel
theorem dX7_ofLink_9 : decode cX7_ofLink 9 = .ok (.invokestatic 79, 3) := by decide +kernel
theorem dX7_ofLink_12 : decode cX7_ofLink 12 = .ok (.iconst 1, 1) := by decide +kernel
theorem dX7_ofLink_13 : decode cX7_ofLink 13 = .ok (.invokevirtual 92, 3) := by decide +kernel
theorem dX7_ofLink_16 : decode cX7_ofLink 16 = .ok (.ifCond .ne 5, 3) := by decide +kernel
theorem dX7_ofLink_19 : decode cX7_ofLink 19 = .ok (.iconst 0, 1) := by decide +kernel
theorem dX7_ofLink_20 : decode cX7_ofLink 20 = .ok (.ireturn, 1) := by decide +kernel
theorem dX7_ofLink_21 : decode cX7_ofLink 21 = .ok (.iload_n 2, 1) := by decide +kernel
theorem dX7_ofLink_22 : decode cX7_ofLink 22 = .ok (.tableswitch 79 0 4 #[34, 54, 60, 66, 73], 34) := by decide +kernel
theorem dX7_ofLink_56 : decode cX7_ofLink 56 = .ok (.aload_n 0, 1) := by decide +kernel
theorem dX7_ofLink_57 : decode cX7_ofLink 57 = .ok (.getfield 35, 3) := by decide +kernel
theorem dX7_ofLink_60 : decode cX7_ofLink 60 = .ok (.iload_n 1, 1) := by decide +kernel
theorem dX7_ofLink_61 : decode cX7_ofLink 61 = .ok (.baload, 1) := by decide +kernel
theorem dX7_ofLink_62 : decode cX7_ofLink 62 = .ok (.ifCond .eq 7, 3) := by decide +kernel
theorem dX7_ofLink_65 : decode cX7_ofLink 65 = .ok (.iconst (-1), 1) := by decide +kernel
theorem dX7_ofLink_66 : decode cX7_ofLink 66 = .ok (.goto 9, 3) := by decide +kernel
theorem dX7_ofLink_69 : decode cX7_ofLink 69 = .ok (.aload_n 0, 1) := by decide +kernel
theorem dX7_ofLink_70 : decode cX7_ofLink 70 = .ok (.getfield 29, 3) := by decide +kernel
theorem dX7_ofLink_73 : decode cX7_ofLink 73 = .ok (.iload_n 1, 1) := by decide +kernel
theorem dX7_ofLink_74 : decode cX7_ofLink 74 = .ok (.iaload, 1) := by decide +kernel
theorem dX7_ofLink_75 : decode cX7_ofLink 75 = .ok (.ireturn, 1) := by decide +kernel
theorem dX7_ofLink_76 : decode cX7_ofLink 76 = .ok (.aload_n 0, 1) := by decide +kernel
theorem dX7_ofLink_77 : decode cX7_ofLink 77 = .ok (.iload_n 1, 1) := by decide +kernel
theorem dX7_ofLink_78 : decode cX7_ofLink 78 = .ok (.invokevirtual 129, 3) := by decide +kernel
theorem dX7_ofLink_81 : decode cX7_ofLink 81 = .ok (.ireturn, 1) := by decide +kernel
theorem dX7_ofLink_82 : decode cX7_ofLink 82 = .ok (.aload_n 0, 1) := by decide +kernel
theorem dX7_ofLink_83 : decode cX7_ofLink 83 = .ok (.iload_n 1, 1) := by decide +kernel
theorem dX7_ofLink_84 : decode cX7_ofLink 84 = .ok (.invokevirtual 143, 3) := by decide +kernel
theorem dX7_ofLink_87 : decode cX7_ofLink 87 = .ok (.ireturn, 1) := by decide +kernel
theorem dX7_ofLink_88 : decode cX7_ofLink 88 = .ok (.aload_n 0, 1) := by decide +kernel
theorem dX7_ofLink_89 : decode cX7_ofLink 89 = .ok (.getfield 26, 3) := by decide +kernel
theorem dX7_ofLink_92 : decode cX7_ofLink 92 = .ok (.iload_n 1, 1) := by decide +kernel
theorem dX7_ofLink_93 : decode cX7_ofLink 93 = .ok (.iaload, 1) := by decide +kernel
theorem dX7_ofLink_94 : decode cX7_ofLink 94 = .ok (.ireturn, 1) := by decide +kernel
theorem dX7_ofLink_95 : decode cX7_ofLink 95 = .ok (.aload_n 0, 1) := by decide +kernel
theorem dX7_ofLink_96 : decode cX7_ofLink 96 = .ok (.iload_n 1, 1) := by decide +kernel
theorem dX7_ofLink_97 : decode cX7_ofLink 97 = .ok (.invokevirtual 146, 3) := by decide +kernel
theorem dX7_ofLink_100 : decode cX7_ofLink 100 = .ok (.ireturn, 1) := by decide +kernel
theorem dX7_ofLink_101 : decode cX7_ofLink 101 = .ok (.aload_n 0, 1) := by decide +kernel
theorem dX7_ofLink_102 : decode cX7_ofLink 102 = .ok (.getfield 39, 3) := by decide +kernel
theorem dX7_ofLink_105 : decode cX7_ofLink 105 = .ok (.iload_n 1, 1) := by decide +kernel
theorem dX7_ofLink_106 : decode cX7_ofLink 106 = .ok (.baload, 1) := by decide +kernel
theorem dX7_ofLink_107 : decode cX7_ofLink 107 = .ok (.ifCond .eq 7, 3) := by decide +kernel
theorem dX7_ofLink_110 : decode cX7_ofLink 110 = .ok (.iconst 1, 1) := by decide +kernel
theorem dX7_ofLink_111 : decode cX7_ofLink 111 = .ok (.goto 4, 3) := by decide +kernel
theorem dX7_ofLink_114 : decode cX7_ofLink 114 = .ok (.iconst 0, 1) := by decide +kernel
theorem dX7_ofLink_115 : decode cX7_ofLink 115 = .ok (.ireturn, 1) := by decide +kernel
theorem dX7_wordAt_0 : decode cX7_wordAt 0 = .ok (.aload_n 0, 1) := by decide +kernel
theorem dX7_wordAt_1 : decode cX7_wordAt 1 = .ok (.iload_n 1, 1) := by decide +kernel
theorem dX7_wordAt_2 : decode cX7_wordAt 2 = .ok (.invokevirtual 187, 3) := by decide +kernel
theorem dX7_wordAt_5 : decode cX7_wordAt 5 = .ok (.ifCond .eq 35, 3) := by decide +kernel
theorem dX7_wordAt_8 : decode cX7_wordAt 8 = .ok (.iload_n 2, 1) := by decide +kernel
theorem dX7_wordAt_9 : decode cX7_wordAt 9 = .ok (.iconst 0, 1) := by decide +kernel
theorem dX7_wordAt_10 : decode cX7_wordAt 10 = .ok (.aload_n 0, 1) := by decide +kernel
theorem dX7_wordAt_11 : decode cX7_wordAt 11 = .ok (.getfield 26, 3) := by decide +kernel
theorem dX7_wordAt_14 : decode cX7_wordAt 14 = .ok (.aload_n 0, 1) := by decide +kernel
theorem dX7_wordAt_15 : decode cX7_wordAt 15 = .ok (.iload_n 1, 1) := by decide +kernel
theorem dX7_wordAt_16 : decode cX7_wordAt 16 = .ok (.invokevirtual 187, 3) := by decide +kernel
theorem dX7_wordAt_19 : decode cX7_wordAt 19 = .ok (.ifCond .eq 7, 3) := by decide +kernel
theorem dX7_wordAt_22 : decode cX7_wordAt 22 = .ok (.iload_n 1, 1) := by decide +kernel
theorem dX7_wordAt_23 : decode cX7_wordAt 23 = .ok (.goto 4, 3) := by decide +kernel
theorem dX7_wordAt_26 : decode cX7_wordAt 26 = .ok (.iconst 0, 1) := by decide +kernel
theorem dX7_wordAt_27 : decode cX7_wordAt 27 = .ok (.iaload, 1) := by decide +kernel
theorem dX7_wordAt_28 : decode cX7_wordAt 28 = .ok (.iconst 1, 1) := by decide +kernel
theorem dX7_wordAt_29 : decode cX7_wordAt 29 = .ok (.isub, 1) := by decide +kernel
theorem dX7_wordAt_30 : decode cX7_wordAt 30 = .ok (.invokestatic 79, 3) := by decide +kernel
theorem dX7_wordAt_33 : decode cX7_wordAt 33 = .ok (.ifCond .eq 7, 3) := by decide +kernel
theorem dX7_wordAt_36 : decode cX7_wordAt 36 = .ok (.iconst 1, 1) := by decide +kernel
theorem dX7_wordAt_37 : decode cX7_wordAt 37 = .ok (.goto 4, 3) := by decide +kernel
theorem dX7_wordAt_40 : decode cX7_wordAt 40 = .ok (.iconst 0, 1) := by decide +kernel
theorem dX7_wordAt_41 : decode cX7_wordAt 41 = .ok (.istore_n 3, 1) := by decide +kernel
theorem dX7_wordAt_42 : decode cX7_wordAt 42 = .ok (.aload_n 0, 1) := by decide +kernel
theorem dX7_wordAt_43 : decode cX7_wordAt 43 = .ok (.iload_n 3, 1) := by decide +kernel
theorem dX7_wordAt_44 : decode cX7_wordAt 44 = .ok (.iconst 1, 1) := by decide +kernel
theorem dX7_wordAt_45 : decode cX7_wordAt 45 = .ok (.iconst 1, 1) := by decide +kernel
theorem dX7_wordAt_46 : decode cX7_wordAt 46 = .ok (.invokevirtual 92, 3) := by decide +kernel
theorem dX7_wordAt_49 : decode cX7_wordAt 49 = .ok (.ifCond .eq 17, 3) := by decide +kernel
theorem dX7_wordAt_52 : decode cX7_wordAt 52 = .ok (.aload_n 0, 1) := by decide +kernel
theorem dX7_wordAt_53 : decode cX7_wordAt 53 = .ok (.getfield 23, 3) := by decide +kernel
theorem dX7_wordAt_56 : decode cX7_wordAt 56 = .ok (.bipush 6, 2) := by decide +kernel
theorem dX7_wordAt_58 : decode cX7_wordAt 58 = .ok (.iload_n 1, 1) := by decide +kernel
theorem dX7_wordAt_59 : decode cX7_wordAt 59 = .ok (.imul, 1) := by decide +kernel
theorem dX7_wordAt_60 : decode cX7_wordAt 60 = .ok (.iload_n 2, 1) := by decide +kernel
theorem dX7_wordAt_61 : decode cX7_wordAt 61 = .ok (.iadd, 1) := by decide +kernel
theorem dX7_wordAt_62 : decode cX7_wordAt 62 = .ok (.iaload, 1) := by decide +kernel
theorem dX7_wordAt_63 : decode cX7_wordAt 63 = .ok (.goto 4, 3) := by decide +kernel
theorem dX7_wordAt_66 : decode cX7_wordAt 66 = .ok (.iconst 0, 1) := by decide +kernel
theorem dX7_wordAt_67 : decode cX7_wordAt 67 = .ok (.ireturn, 1) := by decide +kernel
theorem dX7_faultAnew_0 : decode cX7_faultAnew 0 = .ok (.aload_n 0, 1) := by decide +kernel
theorem dX7_faultAnew_1 : decode cX7_faultAnew 1 = .ok (.aload_n 0, 1) := by decide +kernel
theorem dX7_faultAnew_2 : decode cX7_faultAnew 2 = .ok (.iload_n 1, 1) := by decide +kernel
theorem dX7_faultAnew_3 : decode cX7_faultAnew 3 = .ok (.invokevirtual 187, 3) := by decide +kernel
theorem dX7_faultAnew_6 : decode cX7_faultAnew 6 = .ok (.iconst 1, 1) := by decide +kernel
theorem dX7_faultAnew_7 : decode cX7_faultAnew 7 = .ok (.iconst 1, 1) := by decide +kernel
theorem dX7_faultAnew_8 : decode cX7_faultAnew 8 = .ok (.invokevirtual 92, 3) := by decide +kernel
theorem dX7_faultAnew_11 : decode cX7_faultAnew 11 = .ok (.ifCond .ne 5, 3) := by decide +kernel
theorem dX7_faultAnew_14 : decode cX7_faultAnew 14 = .ok (.iconst 0, 1) := by decide +kernel
theorem dX7_faultAnew_15 : decode cX7_faultAnew 15 = .ok (.ireturn, 1) := by decide +kernel
theorem dX7_faultAnew_16 : decode cX7_faultAnew 16 = .ok (.aload_n 0, 1) := by decide +kernel
theorem dX7_faultAnew_17 : decode cX7_faultAnew 17 = .ok (.iload_n 1, 1) := by decide +kernel
theorem dX7_faultAnew_18 : decode cX7_faultAnew 18 = .ok (.invokevirtual 183, 3) := by decide +kernel
theorem dX7_faultAnew_21 : decode cX7_faultAnew 21 = .ok (.aload_n 0, 1) := by decide +kernel
theorem dX7_faultAnew_22 : decode cX7_faultAnew 22 = .ok (.iload_n 1, 1) := by decide +kernel
theorem dX7_faultAnew_23 : decode cX7_faultAnew 23 = .ok (.aload_n 0, 1) := by decide +kernel
theorem dX7_faultAnew_24 : decode cX7_faultAnew 24 = .ok (.getfield 29, 3) := by decide +kernel
theorem dX7_faultAnew_27 : decode cX7_faultAnew 27 = .ok (.iload_n 1, 1) := by decide +kernel
theorem dX7_faultAnew_28 : decode cX7_faultAnew 28 = .ok (.iaload, 1) := by decide +kernel
theorem dX7_faultAnew_29 : decode cX7_faultAnew 29 = .ok (.invokevirtual 179, 3) := by decide +kernel
theorem dX7_faultAnew_32 : decode cX7_faultAnew 32 = .ok (.ireturn, 1) := by decide +kernel
theorem dX7_chances_0 : decode cX7_chances 0 = .ok (.aload_n 0, 1) := by decide +kernel
theorem dX7_chances_1 : decode cX7_chances 1 = .ok (.aload_n 0, 1) := by decide +kernel
theorem dX7_chances_2 : decode cX7_chances 2 = .ok (.iload_n 1, 1) := by decide +kernel
theorem dX7_chances_3 : decode cX7_chances 3 = .ok (.invokevirtual 176, 3) := by decide +kernel
theorem dX7_chances_6 : decode cX7_chances 6 = .ok (.iconst 1, 1) := by decide +kernel
theorem dX7_chances_7 : decode cX7_chances 7 = .ok (.iconst 1, 1) := by decide +kernel
theorem dX7_chances_8 : decode cX7_chances 8 = .ok (.invokevirtual 92, 3) := by decide +kernel
theorem dX7_chances_11 : decode cX7_chances 11 = .ok (.ifCond .eq 17, 3) := by decide +kernel
theorem dX7_chances_14 : decode cX7_chances 14 = .ok (.aload_n 0, 1) := by decide +kernel
theorem dX7_chances_15 : decode cX7_chances 15 = .ok (.getfield 103, 3) := by decide +kernel
theorem dX7_chances_18 : decode cX7_chances 18 = .ok (.ifCond .eq 10, 3) := by decide +kernel
theorem dX7_chances_21 : decode cX7_chances 21 = .ok (.aload_n 0, 1) := by decide +kernel
theorem dX7_chances_22 : decode cX7_chances 22 = .ok (.invokevirtual 107, 3) := by decide +kernel
theorem dX7_chances_25 : decode cX7_chances 25 = .ok (.ifCond .eq 5, 3) := by decide +kernel
theorem dX7_chances_28 : decode cX7_chances 28 = .ok (.iconst 0, 1) := by decide +kernel
theorem dX7_chances_29 : decode cX7_chances 29 = .ok (.ireturn, 1) := by decide +kernel
theorem dX7_chances_30 : decode cX7_chances 30 = .ok (.iconst 0, 1) := by decide +kernel
theorem dX7_chances_31 : decode cX7_chances 31 = .ok (.istore_n 2, 1) := by decide +kernel
theorem dX7_chances_32 : decode cX7_chances 32 = .ok (.iconst 0, 1) := by decide +kernel
theorem dX7_chances_33 : decode cX7_chances 33 = .ok (.istore_n 3, 1) := by decide +kernel
theorem dX7_chances_34 : decode cX7_chances 34 = .ok (.iload_n 3, 1) := by decide +kernel
theorem dX7_chances_35 : decode cX7_chances 35 = .ok (.aload_n 0, 1) := by decide +kernel
theorem dX7_chances_36 : decode cX7_chances 36 = .ok (.getfield 76, 3) := by decide +kernel
theorem dX7_chances_39 : decode cX7_chances 39 = .ok (.if_icmp .ge 92, 3) := by decide +kernel
theorem dX7_chances_42 : decode cX7_chances 42 = .ok (.aload_n 0, 1) := by decide +kernel
theorem dX7_chances_43 : decode cX7_chances 43 = .ok (.getfield 70, 3) := by decide +kernel
theorem dX7_chances_46 : decode cX7_chances 46 = .ok (.iconst 0, 1) := by decide +kernel
theorem dX7_chances_47 : decode cX7_chances 47 = .ok (.iload_n 3, 1) := by decide +kernel
theorem dX7_chances_48 : decode cX7_chances 48 = .ok (.iastore, 1) := by decide +kernel
theorem dX7_chances_49 : decode cX7_chances 49 = .ok (.aload_n 0, 1) := by decide +kernel
theorem dX7_chances_50 : decode cX7_chances 50 = .ok (.iconst 1, 1) := by decide +kernel
theorem dX7_chances_51 : decode cX7_chances 51 = .ok (.putfield 133, 3) := by decide +kernel
theorem dX7_chances_54 : decode cX7_chances 54 = .ok (.iload_n 2, 1) := by decide +kernel
theorem dX7_chances_55 : decode cX7_chances 55 = .ok (.aload_n 0, 1) := by decide +kernel
theorem dX7_chances_56 : decode cX7_chances 56 = .ok (.aload_n 0, 1) := by decide +kernel
theorem dX7_chances_57 : decode cX7_chances 57 = .ok (.getfield 86, 3) := by decide +kernel
theorem dX7_chances_60 : decode cX7_chances 60 = .ok (.iload_n 1, 1) := by decide +kernel
theorem dX7_chances_61 : decode cX7_chances 61 = .ok (.invokevirtual 179, 3) := by decide +kernel
theorem dX7_chances_64 : decode cX7_chances 64 = .ok (.ifCond .ne 7, 3) := by decide +kernel
theorem dX7_chances_67 : decode cX7_chances 67 = .ok (.iconst 1, 1) := by decide +kernel
theorem dX7_chances_68 : decode cX7_chances 68 = .ok (.goto 4, 3) := by decide +kernel
theorem dX7_chances_71 : decode cX7_chances 71 = .ok (.iconst 0, 1) := by decide +kernel
theorem dX7_chances_72 : decode cX7_chances 72 = .ok (.iadd, 1) := by decide +kernel
theorem dX7_chances_73 : decode cX7_chances 73 = .ok (.istore_n 2, 1) := by decide +kernel
theorem dX7_chances_74 : decode cX7_chances 74 = .ok (.aload_n 0, 1) := by decide +kernel
theorem dX7_chances_75 : decode cX7_chances 75 = .ok (.iconst 2, 1) := by decide +kernel
theorem dX7_chances_76 : decode cX7_chances 76 = .ok (.putfield 133, 3) := by decide +kernel
theorem dX7_chances_79 : decode cX7_chances 79 = .ok (.iconst 0, 1) := by decide +kernel
theorem dX7_chances_80 : decode cX7_chances 80 = .ok (.istore 4, 2) := by decide +kernel
theorem dX7_chances_82 : decode cX7_chances 82 = .ok (.iload 4, 2) := by decide +kernel
theorem dX7_chances_84 : decode cX7_chances 84 = .ok (.aload_n 0, 1) := by decide +kernel
theorem dX7_chances_85 : decode cX7_chances 85 = .ok (.getfield 76, 3) := by decide +kernel
theorem dX7_chances_88 : decode cX7_chances 88 = .ok (.if_icmp .ge 37, 3) := by decide +kernel
theorem dX7_chances_91 : decode cX7_chances 91 = .ok (.aload_n 0, 1) := by decide +kernel
theorem dX7_chances_92 : decode cX7_chances 92 = .ok (.getfield 70, 3) := by decide +kernel
theorem dX7_chances_95 : decode cX7_chances 95 = .ok (.iconst 1, 1) := by decide +kernel
theorem dX7_chances_96 : decode cX7_chances 96 = .ok (.iload 4, 2) := by decide +kernel
theorem dX7_chances_98 : decode cX7_chances 98 = .ok (.iastore, 1) := by decide +kernel
theorem dX7_chances_99 : decode cX7_chances 99 = .ok (.iload_n 2, 1) := by decide +kernel
theorem dX7_chances_100 : decode cX7_chances 100 = .ok (.aload_n 0, 1) := by decide +kernel
theorem dX7_chances_101 : decode cX7_chances 101 = .ok (.aload_n 0, 1) := by decide +kernel
theorem dX7_chances_102 : decode cX7_chances 102 = .ok (.getfield 86, 3) := by decide +kernel
theorem dX7_chances_105 : decode cX7_chances 105 = .ok (.iload_n 1, 1) := by decide +kernel
theorem dX7_chances_106 : decode cX7_chances 106 = .ok (.invokevirtual 179, 3) := by decide +kernel
theorem dX7_chances_109 : decode cX7_chances 109 = .ok (.ifCond .ne 7, 3) := by decide +kernel
theorem dX7_chances_112 : decode cX7_chances 112 = .ok (.iconst 1, 1) := by decide +kernel
theorem dX7_chances_113 : decode cX7_chances 113 = .ok (.goto 4, 3) := by decide +kernel
theorem dX7_chances_116 : decode cX7_chances 116 = .ok (.iconst 0, 1) := by decide +kernel
theorem dX7_chances_117 : decode cX7_chances 117 = .ok (.iadd, 1) := by decide +kernel
theorem dX7_chances_118 : decode cX7_chances 118 = .ok (.istore_n 2, 1) := by decide +kernel
theorem dX7_chances_119 : decode cX7_chances 119 = .ok (.iinc 4 1, 3) := by decide +kernel
theorem dX7_chances_122 : decode cX7_chances 122 = .ok (.goto (-40), 3) := by decide +kernel
theorem dX7_chances_125 : decode cX7_chances 125 = .ok (.iinc 3 1, 3) := by decide +kernel
theorem dX7_chances_128 : decode cX7_chances 128 = .ok (.goto (-94), 3) := by decide +kernel
theorem dX7_chances_131 : decode cX7_chances 131 = .ok (.iload_n 2, 1) := by decide +kernel
theorem dX7_chances_132 : decode cX7_chances 132 = .ok (.ireturn, 1) := by decide +kernel
theorem dX7_prize_0 : decode cX7_prize 0 = .ok (.aload_n 0, 1) := by decide +kernel
theorem dX7_prize_1 : decode cX7_prize 1 = .ok (.iconst 0, 1) := by decide +kernel
theorem dX7_prize_2 : decode cX7_prize 2 = .ok (.putfield 73, 3) := by decide +kernel
theorem dX7_prize_5 : decode cX7_prize 5 = .ok (.iconst (-1), 1) := by decide +kernel
theorem dX7_prize_6 : decode cX7_prize 6 = .ok (.istore_n 1, 1) := by decide +kernel
theorem dX7_prize_7 : decode cX7_prize 7 = .ok (.iconst 0, 1) := by decide +kernel
theorem dX7_prize_8 : decode cX7_prize 8 = .ok (.istore_n 2, 1) := by decide +kernel
theorem dX7_prize_9 : decode cX7_prize 9 = .ok (.iconst 1, 1) := by decide +kernel
theorem dX7_prize_10 : decode cX7_prize 10 = .ok (.istore_n 3, 1) := by decide +kernel
theorem dX7_prize_11 : decode cX7_prize 11 = .ok (.iconst 0, 1) := by decide +kernel
theorem dX7_prize_12 : decode cX7_prize 12 = .ok (.istore 4, 2) := by decide +kernel
theorem dX7_prize_14 : decode cX7_prize 14 = .ok (.iload 4, 2) := by decide +kernel
theorem dX7_prize_16 : decode cX7_prize 16 = .ok (.aload_n 0, 1) := by decide +kernel
theorem dX7_prize_17 : decode cX7_prize 17 = .ok (.getfield 83, 3) := by decide +kernel
theorem dX7_prize_20 : decode cX7_prize 20 = .ok (.if_icmp .ge 132, 3) := by decide +kernel
theorem dX7_prize_23 : decode cX7_prize 23 = .ok (.iconst 0, 1) := by decide +kernel
theorem dX7_prize_24 : decode cX7_prize 24 = .ok (.istore 5, 2) := by decide +kernel
theorem dX7_prize_26 : decode cX7_prize 26 = .ok (.iconst 0, 1) := by decide +kernel
theorem dX7_prize_27 : decode cX7_prize 27 = .ok (.istore 6, 2) := by decide +kernel
theorem dX7_prize_29 : decode cX7_prize 29 = .ok (.iconst 0, 1) := by decide +kernel
theorem dX7_prize_30 : decode cX7_prize 30 = .ok (.istore 7, 2) := by decide +kernel
theorem dX7_prize_32 : decode cX7_prize 32 = .ok (.iload 7, 2) := by decide +kernel
theorem dX7_prize_34 : decode cX7_prize 34 = .ok (.sipush 144, 3) := by decide +kernel
theorem dX7_prize_37 : decode cX7_prize 37 = .ok (.if_icmp .ge 79, 3) := by decide +kernel
theorem dX7_prize_40 : decode cX7_prize 40 = .ok (.aload_n 0, 1) := by decide +kernel
theorem dX7_prize_41 : decode cX7_prize 41 = .ok (.getfield 42, 3) := by decide +kernel
theorem dX7_prize_44 : decode cX7_prize 44 = .ok (.iload 7, 2) := by decide +kernel
theorem dX7_prize_46 : decode cX7_prize 46 = .ok (.iaload, 1) := by decide +kernel
theorem dX7_prize_47 : decode cX7_prize 47 = .ok (.ifCond .le 22, 3) := by decide +kernel
theorem dX7_prize_50 : decode cX7_prize 50 = .ok (.aload_n 0, 1) := by decide +kernel
theorem dX7_prize_51 : decode cX7_prize 51 = .ok (.getfield 29, 3) := by decide +kernel
theorem dX7_prize_54 : decode cX7_prize 54 = .ok (.iload 7, 2) := by decide +kernel
theorem dX7_prize_56 : decode cX7_prize 56 = .ok (.bipush 36, 2) := by decide +kernel
theorem dX7_prize_58 : decode cX7_prize 58 = .ok (.irem, 1) := by decide +kernel
theorem dX7_prize_59 : decode cX7_prize 59 = .ok (.iaload, 1) := by decide +kernel
theorem dX7_prize_60 : decode cX7_prize 60 = .ok (.iload 4, 2) := by decide +kernel
theorem dX7_prize_62 : decode cX7_prize 62 = .ok (.if_icmp .ne 7, 3) := by decide +kernel
theorem dX7_prize_65 : decode cX7_prize 65 = .ok (.iconst 1, 1) := by decide +kernel
theorem dX7_prize_66 : decode cX7_prize 66 = .ok (.goto 4, 3) := by decide +kernel
theorem dX7_prize_69 : decode cX7_prize 69 = .ok (.iconst 0, 1) := by decide +kernel
theorem dX7_prize_70 : decode cX7_prize 70 = .ok (.istore 8, 2) := by decide +kernel
theorem dX7_prize_72 : decode cX7_prize 72 = .ok (.iload 5, 2) := by decide +kernel
theorem dX7_prize_74 : decode cX7_prize 74 = .ok (.iload 8, 2) := by decide +kernel
theorem dX7_prize_76 : decode cX7_prize 76 = .ok (.ifCond .eq 15, 3) := by decide +kernel
theorem dX7_prize_79 : decode cX7_prize 79 = .ok (.aload_n 0, 1) := by decide +kernel
theorem dX7_prize_80 : decode cX7_prize 80 = .ok (.getfield 42, 3) := by decide +kernel
theorem dX7_prize_83 : decode cX7_prize 83 = .ok (.iload 7, 2) := by decide +kernel
theorem dX7_prize_85 : decode cX7_prize 85 = .ok (.iaload, 1) := by decide +kernel
theorem dX7_prize_86 : decode cX7_prize 86 = .ok (.iconst 1, 1) := by decide +kernel
theorem dX7_prize_87 : decode cX7_prize 87 = .ok (.isub, 1) := by decide +kernel
theorem dX7_prize_88 : decode cX7_prize 88 = .ok (.goto 4, 3) := by decide +kernel
theorem dX7_prize_91 : decode cX7_prize 91 = .ok (.iconst 0, 1) := by decide +kernel
theorem dX7_prize_92 : decode cX7_prize 92 = .ok (.iadd, 1) := by decide +kernel
theorem dX7_prize_93 : decode cX7_prize 93 = .ok (.istore 5, 2) := by decide +kernel
theorem dX7_prize_95 : decode cX7_prize 95 = .ok (.iload 6, 2) := by decide +kernel
theorem dX7_prize_97 : decode cX7_prize 97 = .ok (.iload 8, 2) := by decide +kernel
theorem dX7_prize_99 : decode cX7_prize 99 = .ok (.ifCond .eq 7, 3) := by decide +kernel
theorem dX7_prize_102 : decode cX7_prize 102 = .ok (.iconst 1, 1) := by decide +kernel
theorem dX7_prize_103 : decode cX7_prize 103 = .ok (.goto 4, 3) := by decide +kernel
theorem dX7_prize_106 : decode cX7_prize 106 = .ok (.iconst 0, 1) := by decide +kernel
theorem dX7_prize_107 : decode cX7_prize 107 = .ok (.iadd, 1) := by decide +kernel
theorem dX7_prize_108 : decode cX7_prize 108 = .ok (.istore 6, 2) := by decide +kernel
theorem dX7_prize_110 : decode cX7_prize 110 = .ok (.iinc 7 1, 3) := by decide +kernel
theorem dX7_prize_113 : decode cX7_prize 113 = .ok (.goto (-81), 3) := by decide +kernel
theorem dX7_prize_116 : decode cX7_prize 116 = .ok (.iload 6, 2) := by decide +kernel
theorem dX7_prize_118 : decode cX7_prize 118 = .ok (.ifCond .le 28, 3) := by decide +kernel
theorem dX7_prize_121 : decode cX7_prize 121 = .ok (.iload_n 1, 1) := by decide +kernel
theorem dX7_prize_122 : decode cX7_prize 122 = .ok (.iconst (-1), 1) := by decide +kernel
theorem dX7_prize_123 : decode cX7_prize 123 = .ok (.if_icmp .eq 14, 3) := by decide +kernel
theorem dX7_prize_126 : decode cX7_prize 126 = .ok (.iload 5, 2) := by decide +kernel
theorem dX7_prize_128 : decode cX7_prize 128 = .ok (.iload_n 3, 1) := by decide +kernel
theorem dX7_prize_129 : decode cX7_prize 129 = .ok (.imul, 1) := by decide +kernel
theorem dX7_prize_130 : decode cX7_prize 130 = .ok (.iload_n 2, 1) := by decide +kernel
theorem dX7_prize_131 : decode cX7_prize 131 = .ok (.iload 6, 2) := by decide +kernel
theorem dX7_prize_133 : decode cX7_prize 133 = .ok (.imul, 1) := by decide +kernel
theorem dX7_prize_134 : decode cX7_prize 134 = .ok (.if_icmp .le 12, 3) := by decide +kernel
theorem dX7_prize_137 : decode cX7_prize 137 = .ok (.iload 4, 2) := by decide +kernel
theorem dX7_prize_139 : decode cX7_prize 139 = .ok (.istore_n 1, 1) := by decide +kernel
theorem dX7_prize_140 : decode cX7_prize 140 = .ok (.iload 5, 2) := by decide +kernel
theorem dX7_prize_142 : decode cX7_prize 142 = .ok (.istore_n 2, 1) := by decide +kernel
theorem dX7_prize_143 : decode cX7_prize 143 = .ok (.iload 6, 2) := by decide +kernel
theorem dX7_prize_145 : decode cX7_prize 145 = .ok (.istore_n 3, 1) := by decide +kernel
theorem dX7_prize_146 : decode cX7_prize 146 = .ok (.iinc 4 1, 3) := by decide +kernel
theorem dX7_prize_149 : decode cX7_prize 149 = .ok (.goto (-135), 3) := by decide +kernel
theorem dX7_prize_152 : decode cX7_prize 152 = .ok (.iload_n 1, 1) := by decide +kernel
theorem dX7_prize_153 : decode cX7_prize 153 = .ok (.ireturn, 1) := by decide +kernel
theorem dX7_farOf_0 : decode cX7_farOf 0 = .ok (.iconst 0, 1) := by decide +kernel
theorem dX7_farOf_1 : decode cX7_farOf 1 = .ok (.istore_n 3, 1) := by decide +kernel
theorem dX7_farOf_2 : decode cX7_farOf 2 = .ok (.iconst 0, 1) := by decide +kernel
theorem dX7_farOf_3 : decode cX7_farOf 3 = .ok (.istore 4, 2) := by decide +kernel
theorem dX7_farOf_5 : decode cX7_farOf 5 = .ok (.iload 4, 2) := by decide +kernel
theorem dX7_farOf_7 : decode cX7_farOf 7 = .ok (.bipush 36, 2) := by decide +kernel
theorem dX7_farOf_9 : decode cX7_farOf 9 = .ok (.if_icmp .ge 104, 3) := by decide +kernel
theorem dX7_farOf_12 : decode cX7_farOf 12 = .ok (.iconst 0, 1) := by decide +kernel
theorem dX7_farOf_13 : decode cX7_farOf 13 = .ok (.istore 5, 2) := by decide +kernel
theorem dX7_farOf_15 : decode cX7_farOf 15 = .ok (.iload 5, 2) := by decide +kernel
theorem dX7_farOf_17 : decode cX7_farOf 17 = .ok (.bipush 6, 2) := by decide +kernel
theorem dX7_farOf_19 : decode cX7_farOf 19 = .ok (.if_icmp .ge 88, 3) := by decide +kernel
theorem dX7_farOf_22 : decode cX7_farOf 22 = .ok (.iload 5, 2) := by decide +kernel
theorem dX7_farOf_24 : decode cX7_farOf 24 = .ok (.aload_n 0, 1) := by decide +kernel
theorem dX7_farOf_25 : decode cX7_farOf 25 = .ok (.iload_n 1, 1) := by decide +kernel
theorem dX7_farOf_26 : decode cX7_farOf 26 = .ok (.iload 4, 2) := by decide +kernel
theorem dX7_farOf_28 : decode cX7_farOf 28 = .ok (.invokevirtual 193, 3) := by decide +kernel
theorem dX7_farOf_31 : decode cX7_farOf 31 = .ok (.if_icmp .ge 7, 3) := by decide +kernel
theorem dX7_farOf_34 : decode cX7_farOf 34 = .ok (.iconst 1, 1) := by decide +kernel
theorem dX7_farOf_35 : decode cX7_farOf 35 = .ok (.goto 4, 3) := by decide +kernel
theorem dX7_farOf_38 : decode cX7_farOf 38 = .ok (.iconst 0, 1) := by decide +kernel
theorem dX7_farOf_39 : decode cX7_farOf 39 = .ok (.istore 6, 2) := by decide +kernel
theorem dX7_farOf_41 : decode cX7_farOf 41 = .ok (.iload 5, 2) := by decide +kernel
theorem dX7_farOf_43 : decode cX7_farOf 43 = .ok (.aload_n 0, 1) := by decide +kernel
theorem dX7_farOf_44 : decode cX7_farOf 44 = .ok (.iload_n 2, 1) := by decide +kernel
theorem dX7_farOf_45 : decode cX7_farOf 45 = .ok (.iload 4, 2) := by decide +kernel
theorem dX7_farOf_47 : decode cX7_farOf 47 = .ok (.invokevirtual 193, 3) := by decide +kernel
theorem dX7_farOf_50 : decode cX7_farOf 50 = .ok (.if_icmp .ge 7, 3) := by decide +kernel
theorem dX7_farOf_53 : decode cX7_farOf 53 = .ok (.iconst 1, 1) := by decide +kernel
theorem dX7_farOf_54 : decode cX7_farOf 54 = .ok (.goto 4, 3) := by decide +kernel
theorem dX7_farOf_57 : decode cX7_farOf 57 = .ok (.iconst 0, 1) := by decide +kernel
theorem dX7_farOf_58 : decode cX7_farOf 58 = .ok (.istore 7, 2) := by decide +kernel
theorem dX7_farOf_60 : decode cX7_farOf 60 = .ok (.iload_n 3, 1) := by decide +kernel
theorem dX7_farOf_61 : decode cX7_farOf 61 = .ok (.iload 6, 2) := by decide +kernel
theorem dX7_farOf_63 : decode cX7_farOf 63 = .ok (.iload 7, 2) := by decide +kernel
theorem dX7_farOf_65 : decode cX7_farOf 65 = .ok (.if_icmp .ne 29, 3) := by decide +kernel
theorem dX7_farOf_68 : decode cX7_farOf 68 = .ok (.iload 6, 2) := by decide +kernel
theorem dX7_farOf_70 : decode cX7_farOf 70 = .ok (.ifCond .eq 28, 3) := by decide +kernel
theorem dX7_farOf_73 : decode cX7_farOf 73 = .ok (.aload_n 0, 1) := by decide +kernel
theorem dX7_farOf_74 : decode cX7_farOf 74 = .ok (.iload_n 1, 1) := by decide +kernel
theorem dX7_farOf_75 : decode cX7_farOf 75 = .ok (.iload 4, 2) := by decide +kernel
theorem dX7_farOf_77 : decode cX7_farOf 77 = .ok (.iload 5, 2) := by decide +kernel
theorem dX7_farOf_79 : decode cX7_farOf 79 = .ok (.invokevirtual 196, 3) := by decide +kernel
theorem dX7_farOf_82 : decode cX7_farOf 82 = .ok (.aload_n 0, 1) := by decide +kernel
theorem dX7_farOf_83 : decode cX7_farOf 83 = .ok (.iload_n 2, 1) := by decide +kernel
theorem dX7_farOf_84 : decode cX7_farOf 84 = .ok (.iload 4, 2) := by decide +kernel
theorem dX7_farOf_86 : decode cX7_farOf 86 = .ok (.iload 5, 2) := by decide +kernel
theorem dX7_farOf_88 : decode cX7_farOf 88 = .ok (.invokevirtual 196, 3) := by decide +kernel
theorem dX7_farOf_91 : decode cX7_farOf 91 = .ok (.if_icmp .eq 7, 3) := by decide +kernel
theorem dX7_farOf_94 : decode cX7_farOf 94 = .ok (.iconst 1, 1) := by decide +kernel
theorem dX7_farOf_95 : decode cX7_farOf 95 = .ok (.goto 4, 3) := by decide +kernel
theorem dX7_farOf_98 : decode cX7_farOf 98 = .ok (.iconst 0, 1) := by decide +kernel
theorem dX7_farOf_99 : decode cX7_farOf 99 = .ok (.iadd, 1) := by decide +kernel
theorem dX7_farOf_100 : decode cX7_farOf 100 = .ok (.istore_n 3, 1) := by decide +kernel
theorem dX7_farOf_101 : decode cX7_farOf 101 = .ok (.iinc 5 1, 3) := by decide +kernel
theorem dX7_farOf_104 : decode cX7_farOf 104 = .ok (.goto (-89), 3) := by decide +kernel
theorem dX7_farOf_107 : decode cX7_farOf 107 = .ok (.iinc 4 1, 3) := by decide +kernel
theorem dX7_farOf_110 : decode cX7_farOf 110 = .ok (.goto (-105), 3) := by decide +kernel
theorem dX7_farOf_113 : decode cX7_farOf 113 = .ok (.iload_n 3, 1) := by decide +kernel
theorem dX7_farOf_114 : decode cX7_farOf 114 = .ok (.ireturn, 1) := by decide +kernel
theorem dX7_isText_0 : decode cX7_isText 0 = .ok (.iload_n 1, 1) := by decide +kernel
theorem dX7_isText_1 : decode cX7_isText 1 = .ok (.iconst (-1), 1) := by decide +kernel
theorem dX7_isText_2 : decode cX7_isText 2 = .ok (.if_icmp .eq 17, 3) := by decide +kernel
theorem dX7_isText_5 : decode cX7_isText 5 = .ok (.iload_n 1, 1) := by decide +kernel
theorem dX7_isText_6 : decode cX7_isText 6 = .ok (.iconst 0, 1) := by decide +kernel
theorem dX7_isText_7 : decode cX7_isText 7 = .ok (.aload_n 0, 1) := by decide +kernel
theorem dX7_isText_8 : decode cX7_isText 8 = .ok (.getfield 123, 3) := by decide +kernel
theorem dX7_isText_11 : decode cX7_isText 11 = .ok (.iconst 1, 1) := by decide +kernel
theorem dX7_isText_12 : decode cX7_isText 12 = .ok (.isub, 1) := by decide +kernel
theorem dX7_isText_13 : decode cX7_isText 13 = .ok (.invokestatic 79, 3) := by decide +kernel
theorem dX7_isText_16 : decode cX7_isText 16 = .ok (.ifCond .eq 7, 3) := by decide +kernel
theorem dX7_isText_19 : decode cX7_isText 19 = .ok (.iconst 1, 1) := by decide +kernel
theorem dX7_isText_20 : decode cX7_isText 20 = .ok (.goto 4, 3) := by decide +kernel
theorem dX7_isText_23 : decode cX7_isText 23 = .ok (.iconst 0, 1) := by decide +kernel
theorem dX7_isText_24 : decode cX7_isText 24 = .ok (.ireturn, 1) := by decide +kernel
theorem dX7_far_0 : decode cX7_far 0 = .ok (.aload_n 0, 1) := by decide +kernel
theorem dX7_far_1 : decode cX7_far 1 = .ok (.aload_n 0, 1) := by decide +kernel
theorem dX7_far_2 : decode cX7_far 2 = .ok (.iload_n 1, 1) := by decide +kernel
theorem dX7_far_3 : decode cX7_far 3 = .ok (.invokevirtual 200, 3) := by decide +kernel
theorem dX7_far_6 : decode cX7_far 6 = .ok (.ifCond .eq 15, 3) := by decide +kernel
theorem dX7_far_9 : decode cX7_far 9 = .ok (.aload_n 0, 1) := by decide +kernel
theorem dX7_far_10 : decode cX7_far 10 = .ok (.iload_n 2, 1) := by decide +kernel
theorem dX7_far_11 : decode cX7_far 11 = .ok (.invokevirtual 200, 3) := by decide +kernel
theorem dX7_far_14 : decode cX7_far 14 = .ok (.ifCond .eq 7, 3) := by decide +kernel
theorem dX7_far_17 : decode cX7_far 17 = .ok (.iconst 1, 1) := by decide +kernel
theorem dX7_far_18 : decode cX7_far 18 = .ok (.goto 4, 3) := by decide +kernel
theorem dX7_far_21 : decode cX7_far 21 = .ok (.iconst 0, 1) := by decide +kernel
theorem dX7_far_22 : decode cX7_far 22 = .ok (.aload_n 0, 1) := by decide +kernel
theorem dX7_far_23 : decode cX7_far 23 = .ok (.getfield 103, 3) := by decide +kernel
theorem dX7_far_26 : decode cX7_far 26 = .ok (.iconst 1, 1) := by decide +kernel
theorem dX7_far_27 : decode cX7_far 27 = .ok (.invokevirtual 92, 3) := by decide +kernel
theorem dX7_far_30 : decode cX7_far 30 = .ok (.ifCond .eq 12, 3) := by decide +kernel
theorem dX7_far_33 : decode cX7_far 33 = .ok (.aload_n 0, 1) := by decide +kernel
theorem dX7_far_34 : decode cX7_far 34 = .ok (.iload_n 1, 1) := by decide +kernel
theorem dX7_far_35 : decode cX7_far 35 = .ok (.iload_n 2, 1) := by decide +kernel
theorem dX7_far_36 : decode cX7_far 36 = .ok (.invokevirtual 203, 3) := by decide +kernel
theorem dX7_far_39 : decode cX7_far 39 = .ok (.goto 4, 3) := by decide +kernel
theorem dX7_far_42 : decode cX7_far 42 = .ok (.iconst 0, 1) := by decide +kernel
theorem dX7_far_43 : decode cX7_far 43 = .ok (.ireturn, 1) := by decide +kernel
theorem dX7_source_0 : decode cX7_source 0 = .ok (.aload_n 0, 1) := by decide +kernel
theorem dX7_source_1 : decode cX7_source 1 = .ok (.iload_n 1, 1) := by decide +kernel
theorem dX7_source_2 : decode cX7_source 2 = .ok (.iconst 0, 1) := by decide +kernel
theorem dX7_source_3 : decode cX7_source 3 = .ok (.aload_n 0, 1) := by decide +kernel
theorem dX7_source_4 : decode cX7_source 4 = .ok (.getfield 123, 3) := by decide +kernel
theorem dX7_source_7 : decode cX7_source 7 = .ok (.iconst 1, 1) := by decide +kernel
theorem dX7_source_8 : decode cX7_source 8 = .ok (.isub, 1) := by decide +kernel
theorem dX7_source_9 : decode cX7_source 9 = .ok (.invokestatic 79, 3) := by decide +kernel
theorem dX7_source_12 : decode cX7_source 12 = .ok (.iconst 1, 1) := by decide +kernel
theorem dX7_source_13 : decode cX7_source 13 = .ok (.iconst 1, 1) := by decide +kernel
theorem dX7_source_14 : decode cX7_source 14 = .ok (.invokevirtual 92, 3) := by decide +kernel
theorem dX7_source_17 : decode cX7_source 17 = .ok (.ifCond .ne 5, 3) := by decide +kernel
theorem dX7_source_20 : decode cX7_source 20 = .ok (.iconst 0, 1) := by decide +kernel
theorem dX7_source_21 : decode cX7_source 21 = .ok (.ireturn, 1) := by decide +kernel
theorem dX7_source_22 : decode cX7_source 22 = .ok (.iconst (-1), 1) := by decide +kernel
theorem dX7_source_23 : decode cX7_source 23 = .ok (.istore_n 2, 1) := by decide +kernel
theorem dX7_source_24 : decode cX7_source 24 = .ok (.iconst 0, 1) := by decide +kernel
theorem dX7_source_25 : decode cX7_source 25 = .ok (.istore_n 3, 1) := by decide +kernel
theorem dX7_source_26 : decode cX7_source 26 = .ok (.iload_n 3, 1) := by decide +kernel
theorem dX7_source_27 : decode cX7_source 27 = .ok (.aload_n 0, 1) := by decide +kernel
theorem dX7_source_28 : decode cX7_source 28 = .ok (.getfield 123, 3) := by decide +kernel
theorem dX7_source_31 : decode cX7_source 31 = .ok (.if_icmp .ge 35, 3) := by decide +kernel
theorem dX7_source_34 : decode cX7_source 34 = .ok (.iload_n 3, 1) := by decide +kernel
theorem dX7_source_35 : decode cX7_source 35 = .ok (.iload_n 1, 1) := by decide +kernel
theorem dX7_source_36 : decode cX7_source 36 = .ok (.if_icmp .eq 22, 3) := by decide +kernel
theorem dX7_source_39 : decode cX7_source 39 = .ok (.aload_n 0, 1) := by decide +kernel
theorem dX7_source_40 : decode cX7_source 40 = .ok (.iload_n 1, 1) := by decide +kernel
theorem dX7_source_41 : decode cX7_source 41 = .ok (.iload_n 3, 1) := by decide +kernel
theorem dX7_source_42 : decode cX7_source 42 = .ok (.invokevirtual 203, 3) := by decide +kernel
theorem dX7_source_45 : decode cX7_source 45 = .ok (.aload_n 0, 1) := by decide +kernel
theorem dX7_source_46 : decode cX7_source 46 = .ok (.iload_n 1, 1) := by decide +kernel
theorem dX7_source_47 : decode cX7_source 47 = .ok (.iload_n 2, 1) := by decide +kernel
theorem dX7_source_48 : decode cX7_source 48 = .ok (.invokevirtual 203, 3) := by decide +kernel
theorem dX7_source_51 : decode cX7_source 51 = .ok (.if_icmp .ge 7, 3) := by decide +kernel
theorem dX7_source_54 : decode cX7_source 54 = .ok (.iload_n 3, 1) := by decide +kernel
theorem dX7_source_55 : decode cX7_source 55 = .ok (.goto 4, 3) := by decide +kernel
theorem dX7_source_58 : decode cX7_source 58 = .ok (.iload_n 2, 1) := by decide +kernel
theorem dX7_source_59 : decode cX7_source 59 = .ok (.istore_n 2, 1) := by decide +kernel
theorem dX7_source_60 : decode cX7_source 60 = .ok (.iinc 3 1, 3) := by decide +kernel
theorem dX7_source_63 : decode cX7_source 63 = .ok (.goto (-37), 3) := by decide +kernel
theorem dX7_source_66 : decode cX7_source 66 = .ok (.iload_n 2, 1) := by decide +kernel
theorem dX7_source_67 : decode cX7_source 67 = .ok (.ireturn, 1) := by decide +kernel
theorem dX7_likeness_0 : decode cX7_likeness 0 = .ok (.iconst 0, 1) := by decide +kernel
theorem dX7_likeness_1 : decode cX7_likeness 1 = .ok (.istore_n 3, 1) := by decide +kernel
theorem dX7_likeness_2 : decode cX7_likeness 2 = .ok (.aload_n 0, 1) := by decide +kernel
theorem dX7_likeness_3 : decode cX7_likeness 3 = .ok (.iload_n 1, 1) := by decide +kernel
theorem dX7_likeness_4 : decode cX7_likeness 4 = .ok (.invokevirtual 143, 3) := by decide +kernel
theorem dX7_likeness_7 : decode cX7_likeness 7 = .ok (.aload_n 0, 1) := by decide +kernel
theorem dX7_likeness_8 : decode cX7_likeness 8 = .ok (.iload_n 2, 1) := by decide +kernel
theorem dX7_likeness_9 : decode cX7_likeness 9 = .ok (.invokevirtual 143, 3) := by decide +kernel
theorem dX7_likeness_12 : decode cX7_likeness 12 = .ok (.iand, 1) := by decide +kernel
theorem dX7_likeness_13 : decode cX7_likeness 13 = .ok (.istore 4, 2) := by decide +kernel
theorem dX7_likeness_15 : decode cX7_likeness 15 = .ok (.iconst 0, 1) := by decide +kernel
theorem dX7_likeness_16 : decode cX7_likeness 16 = .ok (.istore 5, 2) := by decide +kernel
theorem dX7_likeness_18 : decode cX7_likeness 18 = .ok (.iload 5, 2) := by decide +kernel
theorem dX7_likeness_20 : decode cX7_likeness 20 = .ok (.bipush 10, 2) := by decide +kernel
theorem dX7_likeness_22 : decode cX7_likeness 22 = .ok (.if_icmp .ge 19, 3) := by decide +kernel
theorem dX7_likeness_25 : decode cX7_likeness 25 = .ok (.iload_n 3, 1) := by decide +kernel
theorem dX7_likeness_26 : decode cX7_likeness 26 = .ok (.iload 4, 2) := by decide +kernel
theorem dX7_likeness_28 : decode cX7_likeness 28 = .ok (.iload 5, 2) := by decide +kernel
theorem dX7_likeness_30 : decode cX7_likeness 30 = .ok (.ishr, 1) := by decide +kernel
theorem dX7_likeness_31 : decode cX7_likeness 31 = .ok (.iconst 1, 1) := by decide +kernel
theorem dX7_likeness_32 : decode cX7_likeness 32 = .ok (.iand, 1) := by decide +kernel
theorem dX7_likeness_33 : decode cX7_likeness 33 = .ok (.iadd, 1) := by decide +kernel
theorem dX7_likeness_34 : decode cX7_likeness 34 = .ok (.istore_n 3, 1) := by decide +kernel
theorem dX7_likeness_35 : decode cX7_likeness 35 = .ok (.iinc 5 1, 3) := by decide +kernel
theorem dX7_likeness_38 : decode cX7_likeness 38 = .ok (.goto (-20), 3) := by decide +kernel
theorem dX7_likeness_41 : decode cX7_likeness 41 = .ok (.iconst 0, 1) := by decide +kernel
theorem dX7_likeness_42 : decode cX7_likeness 42 = .ok (.istore 5, 2) := by decide +kernel
theorem dX7_likeness_44 : decode cX7_likeness 44 = .ok (.iload 5, 2) := by decide +kernel
theorem dX7_likeness_46 : decode cX7_likeness 46 = .ok (.aload_n 0, 1) := by decide +kernel
theorem dX7_likeness_47 : decode cX7_likeness 47 = .ok (.getfield 26, 3) := by decide +kernel
theorem dX7_likeness_50 : decode cX7_likeness 50 = .ok (.iload_n 1, 1) := by decide +kernel
theorem dX7_likeness_51 : decode cX7_likeness 51 = .ok (.iaload, 1) := by decide +kernel
theorem dX7_likeness_52 : decode cX7_likeness 52 = .ok (.if_icmp .ge 64, 3) := by decide +kernel
theorem dX7_likeness_55 : decode cX7_likeness 55 = .ok (.iconst 0, 1) := by decide +kernel
theorem dX7_likeness_56 : decode cX7_likeness 56 = .ok (.istore 6, 2) := by decide +kernel
theorem dX7_likeness_58 : decode cX7_likeness 58 = .ok (.iload 6, 2) := by decide +kernel
theorem dX7_likeness_60 : decode cX7_likeness 60 = .ok (.aload_n 0, 1) := by decide +kernel
theorem dX7_likeness_61 : decode cX7_likeness 61 = .ok (.getfield 26, 3) := by decide +kernel
theorem dX7_likeness_64 : decode cX7_likeness 64 = .ok (.iload_n 2, 1) := by decide +kernel
theorem dX7_likeness_65 : decode cX7_likeness 65 = .ok (.iaload, 1) := by decide +kernel
theorem dX7_likeness_66 : decode cX7_likeness 66 = .ok (.if_icmp .ge 44, 3) := by decide +kernel
theorem dX7_likeness_69 : decode cX7_likeness 69 = .ok (.iload_n 3, 1) := by decide +kernel
theorem dX7_likeness_70 : decode cX7_likeness 70 = .ok (.aload_n 0, 1) := by decide +kernel
theorem dX7_likeness_71 : decode cX7_likeness 71 = .ok (.getfield 23, 3) := by decide +kernel
theorem dX7_likeness_74 : decode cX7_likeness 74 = .ok (.bipush 6, 2) := by decide +kernel
theorem dX7_likeness_76 : decode cX7_likeness 76 = .ok (.iload_n 1, 1) := by decide +kernel
theorem dX7_likeness_77 : decode cX7_likeness 77 = .ok (.imul, 1) := by decide +kernel
theorem dX7_likeness_78 : decode cX7_likeness 78 = .ok (.iload 5, 2) := by decide +kernel
theorem dX7_likeness_80 : decode cX7_likeness 80 = .ok (.iadd, 1) := by decide +kernel
theorem dX7_likeness_81 : decode cX7_likeness 81 = .ok (.iaload, 1) := by decide +kernel
theorem dX7_likeness_82 : decode cX7_likeness 82 = .ok (.aload_n 0, 1) := by decide +kernel
theorem dX7_likeness_83 : decode cX7_likeness 83 = .ok (.getfield 23, 3) := by decide +kernel
theorem dX7_likeness_86 : decode cX7_likeness 86 = .ok (.bipush 6, 2) := by decide +kernel
theorem dX7_likeness_88 : decode cX7_likeness 88 = .ok (.iload_n 2, 1) := by decide +kernel
theorem dX7_likeness_89 : decode cX7_likeness 89 = .ok (.imul, 1) := by decide +kernel
theorem dX7_likeness_90 : decode cX7_likeness 90 = .ok (.iload 6, 2) := by decide +kernel
theorem dX7_likeness_92 : decode cX7_likeness 92 = .ok (.iadd, 1) := by decide +kernel
theorem dX7_likeness_93 : decode cX7_likeness 93 = .ok (.iaload, 1) := by decide +kernel
theorem dX7_likeness_94 : decode cX7_likeness 94 = .ok (.if_icmp .ne 7, 3) := by decide +kernel
theorem dX7_likeness_97 : decode cX7_likeness 97 = .ok (.iconst 3, 1) := by decide +kernel
theorem dX7_likeness_98 : decode cX7_likeness 98 = .ok (.goto 4, 3) := by decide +kernel
theorem dX7_likeness_101 : decode cX7_likeness 101 = .ok (.iconst 0, 1) := by decide +kernel
theorem dX7_likeness_102 : decode cX7_likeness 102 = .ok (.iadd, 1) := by decide +kernel
theorem dX7_likeness_103 : decode cX7_likeness 103 = .ok (.istore_n 3, 1) := by decide +kernel
theorem dX7_likeness_104 : decode cX7_likeness 104 = .ok (.iinc 6 1, 3) := by decide +kernel
theorem dX7_likeness_107 : decode cX7_likeness 107 = .ok (.goto (-49), 3) := by decide +kernel
theorem dX7_likeness_110 : decode cX7_likeness 110 = .ok (.iinc 5 1, 3) := by decide +kernel
theorem dX7_likeness_113 : decode cX7_likeness 113 = .ok (.goto (-69), 3) := by decide +kernel
theorem dX7_likeness_116 : decode cX7_likeness 116 = .ok (.iload_n 3, 1) := by decide +kernel
theorem dX7_likeness_117 : decode cX7_likeness 117 = .ok (.ireturn, 1) := by decide +kernel
theorem dX7_hand_0 : decode cX7_hand 0 = .ok (.aload_n 0, 1) := by decide +kernel
theorem dX7_hand_1 : decode cX7_hand 1 = .ok (.aload_n 0, 1) := by decide +kernel
theorem dX7_hand_2 : decode cX7_hand 2 = .ok (.iload_n 1, 1) := by decide +kernel
theorem dX7_hand_3 : decode cX7_hand 3 = .ok (.invokevirtual 187, 3) := by decide +kernel
theorem dX7_hand_6 : decode cX7_hand 6 = .ok (.iconst 1, 1) := by decide +kernel
theorem dX7_hand_7 : decode cX7_hand 7 = .ok (.iconst 1, 1) := by decide +kernel
theorem dX7_hand_8 : decode cX7_hand 8 = .ok (.invokevirtual 92, 3) := by decide +kernel
theorem dX7_hand_11 : decode cX7_hand 11 = .ok (.ifCond .ne 5, 3) := by decide +kernel
theorem dX7_hand_14 : decode cX7_hand 14 = .ok (.iconst 0, 1) := by decide +kernel
theorem dX7_hand_15 : decode cX7_hand 15 = .ok (.ireturn, 1) := by decide +kernel
theorem dX7_hand_16 : decode cX7_hand 16 = .ok (.iconst (-1), 1) := by decide +kernel
theorem dX7_hand_17 : decode cX7_hand 17 = .ok (.istore_n 2, 1) := by decide +kernel
theorem dX7_hand_18 : decode cX7_hand 18 = .ok (.iconst 0, 1) := by decide +kernel
theorem dX7_hand_19 : decode cX7_hand 19 = .ok (.istore_n 3, 1) := by decide +kernel
theorem dX7_hand_20 : decode cX7_hand 20 = .ok (.iconst 1, 1) := by decide +kernel
theorem dX7_hand_21 : decode cX7_hand 21 = .ok (.istore 4, 2) := by decide +kernel
theorem dX7_hand_23 : decode cX7_hand 23 = .ok (.iconst 0, 1) := by decide +kernel
theorem dX7_hand_24 : decode cX7_hand 24 = .ok (.istore 5, 2) := by decide +kernel
theorem dX7_hand_26 : decode cX7_hand 26 = .ok (.iload 5, 2) := by decide +kernel
theorem dX7_hand_28 : decode cX7_hand 28 = .ok (.aload_n 0, 1) := by decide +kernel
theorem dX7_hand_29 : decode cX7_hand 29 = .ok (.getfield 83, 3) := by decide +kernel
theorem dX7_hand_32 : decode cX7_hand 32 = .ok (.if_icmp .ge 136, 3) := by decide +kernel
theorem dX7_hand_35 : decode cX7_hand 35 = .ok (.iconst 0, 1) := by decide +kernel
theorem dX7_hand_36 : decode cX7_hand 36 = .ok (.istore 6, 2) := by decide +kernel
theorem dX7_hand_38 : decode cX7_hand 38 = .ok (.iconst 0, 1) := by decide +kernel
theorem dX7_hand_39 : decode cX7_hand 39 = .ok (.istore 7, 2) := by decide +kernel
theorem dX7_hand_41 : decode cX7_hand 41 = .ok (.iconst 0, 1) := by decide +kernel
theorem dX7_hand_42 : decode cX7_hand 42 = .ok (.istore 8, 2) := by decide +kernel
theorem dX7_hand_44 : decode cX7_hand 44 = .ok (.iload 8, 2) := by decide +kernel
theorem dX7_hand_46 : decode cX7_hand 46 = .ok (.aload_n 0, 1) := by decide +kernel
theorem dX7_hand_47 : decode cX7_hand 47 = .ok (.getfield 86, 3) := by decide +kernel
theorem dX7_hand_50 : decode cX7_hand 50 = .ok (.if_icmp .ge 80, 3) := by decide +kernel
theorem dX7_hand_53 : decode cX7_hand 53 = .ok (.iload 8, 2) := by decide +kernel
theorem dX7_hand_55 : decode cX7_hand 55 = .ok (.iload_n 1, 1) := by decide +kernel
theorem dX7_hand_56 : decode cX7_hand 56 = .ok (.if_icmp .eq 29, 3) := by decide +kernel
theorem dX7_hand_59 : decode cX7_hand 59 = .ok (.aload_n 0, 1) := by decide +kernel
theorem dX7_hand_60 : decode cX7_hand 60 = .ok (.getfield 35, 3) := by decide +kernel
theorem dX7_hand_63 : decode cX7_hand 63 = .ok (.iload 8, 2) := by decide +kernel
theorem dX7_hand_65 : decode cX7_hand 65 = .ok (.baload, 1) := by decide +kernel
theorem dX7_hand_66 : decode cX7_hand 66 = .ok (.ifCond .ne 19, 3) := by decide +kernel
theorem dX7_hand_69 : decode cX7_hand 69 = .ok (.aload_n 0, 1) := by decide +kernel
theorem dX7_hand_70 : decode cX7_hand 70 = .ok (.getfield 29, 3) := by decide +kernel
theorem dX7_hand_73 : decode cX7_hand 73 = .ok (.iload 8, 2) := by decide +kernel
theorem dX7_hand_75 : decode cX7_hand 75 = .ok (.iaload, 1) := by decide +kernel
theorem dX7_hand_76 : decode cX7_hand 76 = .ok (.iload 5, 2) := by decide +kernel
theorem dX7_hand_78 : decode cX7_hand 78 = .ok (.if_icmp .ne 7, 3) := by decide +kernel
theorem dX7_hand_81 : decode cX7_hand 81 = .ok (.iconst 1, 1) := by decide +kernel
theorem dX7_hand_82 : decode cX7_hand 82 = .ok (.goto 4, 3) := by decide +kernel
theorem dX7_hand_85 : decode cX7_hand 85 = .ok (.iconst 0, 1) := by decide +kernel
theorem dX7_hand_86 : decode cX7_hand 86 = .ok (.istore 9, 2) := by decide +kernel
theorem dX7_hand_88 : decode cX7_hand 88 = .ok (.iload 6, 2) := by decide +kernel
theorem dX7_hand_90 : decode cX7_hand 90 = .ok (.iload 9, 2) := by decide +kernel
theorem dX7_hand_92 : decode cX7_hand 92 = .ok (.ifCond .eq 13, 3) := by decide +kernel
theorem dX7_hand_95 : decode cX7_hand 95 = .ok (.aload_n 0, 1) := by decide +kernel
theorem dX7_hand_96 : decode cX7_hand 96 = .ok (.iload_n 1, 1) := by decide +kernel
theorem dX7_hand_97 : decode cX7_hand 97 = .ok (.iload 8, 2) := by decide +kernel
theorem dX7_hand_99 : decode cX7_hand 99 = .ok (.invokevirtual 206, 3) := by decide +kernel
theorem dX7_hand_102 : decode cX7_hand 102 = .ok (.goto 4, 3) := by decide +kernel
theorem dX7_hand_105 : decode cX7_hand 105 = .ok (.iconst 0, 1) := by decide +kernel
theorem dX7_hand_106 : decode cX7_hand 106 = .ok (.iadd, 1) := by decide +kernel
theorem dX7_hand_107 : decode cX7_hand 107 = .ok (.istore 6, 2) := by decide +kernel
theorem dX7_hand_109 : decode cX7_hand 109 = .ok (.iload 7, 2) := by decide +kernel
theorem dX7_hand_111 : decode cX7_hand 111 = .ok (.iload 9, 2) := by decide +kernel
theorem dX7_hand_113 : decode cX7_hand 113 = .ok (.ifCond .eq 7, 3) := by decide +kernel
theorem dX7_hand_116 : decode cX7_hand 116 = .ok (.iconst 1, 1) := by decide +kernel
theorem dX7_hand_117 : decode cX7_hand 117 = .ok (.goto 4, 3) := by decide +kernel
theorem dX7_hand_120 : decode cX7_hand 120 = .ok (.iconst 0, 1) := by decide +kernel
theorem dX7_hand_121 : decode cX7_hand 121 = .ok (.iadd, 1) := by decide +kernel
theorem dX7_hand_122 : decode cX7_hand 122 = .ok (.istore 7, 2) := by decide +kernel
theorem dX7_hand_124 : decode cX7_hand 124 = .ok (.iinc 8 1, 3) := by decide +kernel
theorem dX7_hand_127 : decode cX7_hand 127 = .ok (.goto (-83), 3) := by decide +kernel
theorem dX7_hand_130 : decode cX7_hand 130 = .ok (.iload 7, 2) := by decide +kernel
theorem dX7_hand_132 : decode cX7_hand 132 = .ok (.ifCond .le 30, 3) := by decide +kernel
theorem dX7_hand_135 : decode cX7_hand 135 = .ok (.iload_n 2, 1) := by decide +kernel
theorem dX7_hand_136 : decode cX7_hand 136 = .ok (.iconst (-1), 1) := by decide +kernel
theorem dX7_hand_137 : decode cX7_hand 137 = .ok (.if_icmp .eq 15, 3) := by decide +kernel
theorem dX7_hand_140 : decode cX7_hand 140 = .ok (.iload 6, 2) := by decide +kernel
theorem dX7_hand_142 : decode cX7_hand 142 = .ok (.iload 4, 2) := by decide +kernel
theorem dX7_hand_144 : decode cX7_hand 144 = .ok (.imul, 1) := by decide +kernel
theorem dX7_hand_145 : decode cX7_hand 145 = .ok (.iload_n 3, 1) := by decide +kernel
theorem dX7_hand_146 : decode cX7_hand 146 = .ok (.iload 7, 2) := by decide +kernel
theorem dX7_hand_148 : decode cX7_hand 148 = .ok (.imul, 1) := by decide +kernel
theorem dX7_hand_149 : decode cX7_hand 149 = .ok (.if_icmp .le 13, 3) := by decide +kernel
theorem dX7_hand_152 : decode cX7_hand 152 = .ok (.iload 5, 2) := by decide +kernel
theorem dX7_hand_154 : decode cX7_hand 154 = .ok (.istore_n 2, 1) := by decide +kernel
theorem dX7_hand_155 : decode cX7_hand 155 = .ok (.iload 6, 2) := by decide +kernel
theorem dX7_hand_157 : decode cX7_hand 157 = .ok (.istore_n 3, 1) := by decide +kernel
theorem dX7_hand_158 : decode cX7_hand 158 = .ok (.iload 7, 2) := by decide +kernel
theorem dX7_hand_160 : decode cX7_hand 160 = .ok (.istore 4, 2) := by decide +kernel
theorem dX7_hand_162 : decode cX7_hand 162 = .ok (.iinc 5 1, 3) := by decide +kernel
theorem dX7_hand_165 : decode cX7_hand 165 = .ok (.goto (-139), 3) := by decide +kernel
theorem dX7_hand_168 : decode cX7_hand 168 = .ok (.iload_n 2, 1) := by decide +kernel
theorem dX7_hand_169 : decode cX7_hand 169 = .ok (.ireturn, 1) := by decide +kernel
