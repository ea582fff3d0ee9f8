theorem dX0_init_0 : decode cX0_init 0 = .ok (.aload_n 0, 1) := by decide +kernel
theorem dX0_init_1 : decode cX0_init 1 = .ok (.invokespecial 3, 3) := by decide +kernel
theorem dX0_init_4 : decode cX0_init 4 = .ok (.aload_n 0, 1) := by decide +kernel
theorem dX0_init_5 : decode cX0_init 5 = .ok (.bipush 6, 2) := by decide +kernel
theorem dX0_init_7 : decode cX0_init 7 = .ok (.newarray .int, 2) := by decide +kernel
theorem dX0_init_9 : decode cX0_init 9 = .ok (.putfield 9, 3) := by decide +kernel
theorem dX0_init_12 : decode cX0_init 12 = .ok (.aload_n 0, 1) := by decide +kernel
theorem dX0_init_13 : decode cX0_init 13 = .ok (.bipush 6, 2) := by decide +kernel
theorem dX0_init_15 : decode cX0_init 15 = .ok (.newarray .int, 2) := by decide +kernel
theorem dX0_init_17 : decode cX0_init 17 = .ok (.putfield 15, 3) := by decide +kernel
theorem dX0_init_20 : decode cX0_init 20 = .ok (.return_, 1) := by decide +kernel
theorem dX0_reset_0 : decode cX0_reset 0 = .ok (.iconst 0, 1) := by decide +kernel
theorem dX0_reset_1 : decode cX0_reset 1 = .ok (.istore_n 1, 1) := by decide +kernel
theorem dX0_reset_2 : decode cX0_reset 2 = .ok (.iload_n 1, 1) := by decide +kernel
theorem dX0_reset_3 : decode cX0_reset 3 = .ok (.bipush 6, 2) := by decide +kernel
theorem dX0_reset_5 : decode cX0_reset 5 = .ok (.if_icmp .ge 23, 3) := by decide +kernel
theorem dX0_reset_8 : decode cX0_reset 8 = .ok (.aload_n 0, 1) := by decide +kernel
theorem dX0_reset_9 : decode cX0_reset 9 = .ok (.getfield 9, 3) := by decide +kernel
theorem dX0_reset_12 : decode cX0_reset 12 = .ok (.iload_n 1, 1) := by decide +kernel
theorem dX0_reset_13 : decode cX0_reset 13 = .ok (.iconst 0, 1) := by decide +kernel
theorem dX0_reset_14 : decode cX0_reset 14 = .ok (.iastore, 1) := by decide +kernel
theorem dX0_reset_15 : decode cX0_reset 15 = .ok (.aload_n 0, 1) := by decide +kernel
theorem dX0_reset_16 : decode cX0_reset 16 = .ok (.getfield 15, 3) := by decide +kernel
theorem dX0_reset_19 : decode cX0_reset 19 = .ok (.iload_n 1, 1) := by decide +kernel
theorem dX0_reset_20 : decode cX0_reset 20 = .ok (.iconst 0, 1) := by decide +kernel
theorem dX0_reset_21 : decode cX0_reset 21 = .ok (.iastore, 1) := by decide +kernel
theorem dX0_reset_22 : decode cX0_reset 22 = .ok (.iinc 1 1, 3) := by decide +kernel
theorem dX0_reset_25 : decode cX0_reset 25 = .ok (.goto (-23), 3) := by decide +kernel
theorem dX0_reset_28 : decode cX0_reset 28 = .ok (.return_, 1) := by decide +kernel
theorem dX0_enter_0 : decode cX0_enter 0 = .ok (.iload_n 1, 1) := by decide +kernel
theorem dX0_enter_1 : decode cX0_enter 1 = .ok (.ifCond .lt 29, 3) := by decide +kernel
theorem dX0_enter_4 : decode cX0_enter 4 = .ok (.iload_n 1, 1) := by decide +kernel
theorem dX0_enter_5 : decode cX0_enter 5 = .ok (.bipush 6, 2) := by decide +kernel
theorem dX0_enter_7 : decode cX0_enter 7 = .ok (.if_icmp .ge 23, 3) := by decide +kernel
theorem dX0_enter_10 : decode cX0_enter 10 = .ok (.aload_n 0, 1) := by decide +kernel
theorem dX0_enter_11 : decode cX0_enter 11 = .ok (.getfield 9, 3) := by decide +kernel
theorem dX0_enter_14 : decode cX0_enter 14 = .ok (.iload_n 1, 1) := by decide +kernel
theorem dX0_enter_15 : decode cX0_enter 15 = .ok (.dup2, 1) := by decide +kernel
theorem dX0_enter_16 : decode cX0_enter 16 = .ok (.iaload, 1) := by decide +kernel
theorem dX0_enter_17 : decode cX0_enter 17 = .ok (.iload_n 2, 1) := by decide +kernel
theorem dX0_enter_18 : decode cX0_enter 18 = .ok (.iadd, 1) := by decide +kernel
theorem dX0_enter_19 : decode cX0_enter 19 = .ok (.iastore, 1) := by decide +kernel
theorem dX0_enter_20 : decode cX0_enter 20 = .ok (.aload_n 0, 1) := by decide +kernel
theorem dX0_enter_21 : decode cX0_enter 21 = .ok (.getfield 15, 3) := by decide +kernel
theorem dX0_enter_24 : decode cX0_enter 24 = .ok (.iload_n 1, 1) := by decide +kernel
theorem dX0_enter_25 : decode cX0_enter 25 = .ok (.dup2, 1) := by decide +kernel
theorem dX0_enter_26 : decode cX0_enter 26 = .ok (.iaload, 1) := by decide +kernel
theorem dX0_enter_27 : decode cX0_enter 27 = .ok (.iconst 1, 1) := by decide +kernel
theorem dX0_enter_28 : decode cX0_enter 28 = .ok (.iadd, 1) := by decide +kernel
theorem dX0_enter_29 : decode cX0_enter 29 = .ok (.iastore, 1) := by decide +kernel
theorem dX0_enter_30 : decode cX0_enter 30 = .ok (.return_, 1) := by decide +kernel
theorem dX0_greatest_0 : decode cX0_greatest 0 = .ok (.iconst (-1), 1) := by decide +kernel
theorem dX0_greatest_1 : decode cX0_greatest 1 = .ok (.istore_n 1, 1) := by decide +kernel
theorem dX0_greatest_2 : decode cX0_greatest 2 = .ok (.iconst 0, 1) := by decide +kernel
theorem dX0_greatest_3 : decode cX0_greatest 3 = .ok (.istore_n 2, 1) := by decide +kernel
theorem dX0_greatest_4 : decode cX0_greatest 4 = .ok (.iload_n 2, 1) := by decide +kernel
theorem dX0_greatest_5 : decode cX0_greatest 5 = .ok (.bipush 6, 2) := by decide +kernel
theorem dX0_greatest_7 : decode cX0_greatest 7 = .ok (.if_icmp .ge 34, 3) := by decide +kernel
theorem dX0_greatest_10 : decode cX0_greatest 10 = .ok (.aload_n 0, 1) := by decide +kernel
theorem dX0_greatest_11 : decode cX0_greatest 11 = .ok (.getfield 15, 3) := by decide +kernel
theorem dX0_greatest_14 : decode cX0_greatest 14 = .ok (.iload_n 2, 1) := by decide +kernel
theorem dX0_greatest_15 : decode cX0_greatest 15 = .ok (.iaload, 1) := by decide +kernel
theorem dX0_greatest_16 : decode cX0_greatest 16 = .ok (.ifCond .le 19, 3) := by decide +kernel
theorem dX0_greatest_19 : decode cX0_greatest 19 = .ok (.iload_n 1, 1) := by decide +kernel
theorem dX0_greatest_20 : decode cX0_greatest 20 = .ok (.iconst (-1), 1) := by decide +kernel
theorem dX0_greatest_21 : decode cX0_greatest 21 = .ok (.if_icmp .eq 12, 3) := by decide +kernel
theorem dX0_greatest_24 : decode cX0_greatest 24 = .ok (.aload_n 0, 1) := by decide +kernel
theorem dX0_greatest_25 : decode cX0_greatest 25 = .ok (.iload_n 2, 1) := by decide +kernel
theorem dX0_greatest_26 : decode cX0_greatest 26 = .ok (.iload_n 1, 1) := by decide +kernel
theorem dX0_greatest_27 : decode cX0_greatest 27 = .ok (.invokevirtual 18, 3) := by decide +kernel
theorem dX0_greatest_30 : decode cX0_greatest 30 = .ok (.ifCond .eq 5, 3) := by decide +kernel
theorem dX0_greatest_33 : decode cX0_greatest 33 = .ok (.iload_n 2, 1) := by decide +kernel
theorem dX0_greatest_34 : decode cX0_greatest 34 = .ok (.istore_n 1, 1) := by decide +kernel
theorem dX0_greatest_35 : decode cX0_greatest 35 = .ok (.iinc 2 1, 3) := by decide +kernel
theorem dX0_greatest_38 : decode cX0_greatest 38 = .ok (.goto (-34), 3) := by decide +kernel
theorem dX0_greatest_41 : decode cX0_greatest 41 = .ok (.iload_n 1, 1) := by decide +kernel
theorem dX0_greatest_42 : decode cX0_greatest 42 = .ok (.ireturn, 1) := by decide +kernel
theorem dX0_isGreater_0 : decode cX0_isGreater 0 = .ok (.aload_n 0, 1) := by decide +kernel
theorem dX0_isGreater_1 : decode cX0_isGreater 1 = .ok (.getfield 9, 3) := by decide +kernel
theorem dX0_isGreater_4 : decode cX0_isGreater 4 = .ok (.iload_n 1, 1) := by decide +kernel
theorem dX0_isGreater_5 : decode cX0_isGreater 5 = .ok (.iaload, 1) := by decide +kernel
theorem dX0_isGreater_6 : decode cX0_isGreater 6 = .ok (.aload_n 0, 1) := by decide +kernel
theorem dX0_isGreater_7 : decode cX0_isGreater 7 = .ok (.getfield 15, 3) := by decide +kernel
theorem dX0_isGreater_10 : decode cX0_isGreater 10 = .ok (.iload_n 2, 1) := by decide +kernel
theorem dX0_isGreater_11 : decode cX0_isGreater 11 = .ok (.iaload, 1) := by decide +kernel
theorem dX0_isGreater_12 : decode cX0_isGreater 12 = .ok (.imul, 1) := by decide +kernel
theorem dX0_isGreater_13 : decode cX0_isGreater 13 = .ok (.aload_n 0, 1) := by decide +kernel
theorem dX0_isGreater_14 : decode cX0_isGreater 14 = .ok (.getfield 9, 3) := by decide +kernel
theorem dX0_isGreater_17 : decode cX0_isGreater 17 = .ok (.iload_n 2, 1) := by decide +kernel
theorem dX0_isGreater_18 : decode cX0_isGreater 18 = .ok (.iaload, 1) := by decide +kernel
theorem dX0_isGreater_19 : decode cX0_isGreater 19 = .ok (.aload_n 0, 1) := by decide +kernel
theorem dX0_isGreater_20 : decode cX0_isGreater 20 = .ok (.getfield 15, 3) := by decide +kernel
theorem dX0_isGreater_23 : decode cX0_isGreater 23 = .ok (.iload_n 1, 1) := by decide +kernel
theorem dX0_isGreater_24 : decode cX0_isGreater 24 = .ok (.iaload, 1) := by decide +kernel
theorem dX0_isGreater_25 : decode cX0_isGreater 25 = .ok (.imul, 1) := by decide +kernel
theorem dX0_isGreater_26 : decode cX0_isGreater 26 = .ok (.if_icmp .le 7, 3) := by decide +kernel
theorem dX0_isGreater_29 : decode cX0_isGreater 29 = .ok (.iconst 1, 1) := by decide +kernel
theorem dX0_isGreater_30 : decode cX0_isGreater 30 = .ok (.goto 4, 3) := by decide +kernel
theorem dX0_isGreater_33 : decode cX0_isGreater 33 = .ok (.iconst 0, 1) := by decide +kernel
theorem dX0_isGreater_34 : decode cX0_isGreater 34 = .ok (.ireturn, 1) := by decide +kernel
theorem dX1_init_0 : decode cX1_init 0 = .ok (.aload_n 0, 1) := by decide +kernel
theorem dX1_init_1 : decode cX1_init 1 = .ok (.invokespecial 3, 3) := by decide +kernel
theorem dX1_init_4 : decode cX1_init 4 = .ok (.aload_n 0, 1) := by decide +kernel
theorem dX1_init_5 : decode cX1_init 5 = .ok (.bipush 36, 2) := by decide +kernel
theorem dX1_init_7 : decode cX1_init 7 = .ok (.newarray .int, 2) := by decide +kernel
theorem dX1_init_9 : decode cX1_init 9 = .ok (.putfield 9, 3) := by decide +kernel
theorem dX1_init_12 : decode cX1_init 12 = .ok (.aload_n 0, 1) := by decide +kernel
theorem dX1_init_13 : decode cX1_init 13 = .ok (.bipush 36, 2) := by decide +kernel
theorem dX1_init_15 : decode cX1_init 15 = .ok (.anewarray 15, 3) := by decide +kernel
theorem dX1_init_18 : decode cX1_init 18 = .ok (.putfield 17, 3) := by decide +kernel
theorem dX1_init_21 : decode cX1_init 21 = .ok (.aload_n 0, 1) := by decide +kernel
theorem dX1_init_22 : decode cX1_init 22 = .ok (.bipush 36, 2) := by decide +kernel
theorem dX1_init_24 : decode cX1_init 24 = .ok (.newarray .int, 2) := by decide +kernel
theorem dX1_init_26 : decode cX1_init 26 = .ok (.putfield 21, 3) := by decide +kernel
theorem dX1_init_29 : decode cX1_init 29 = .ok (.aload_n 0, 1) := by decide +kernel
theorem dX1_init_30 : decode cX1_init 30 = .ok (.bipush 36, 2) := by decide +kernel
theorem dX1_init_32 : decode cX1_init 32 = .ok (.newarray .boolean, 2) := by decide +kernel
theorem dX1_init_34 : decode cX1_init 34 = .ok (.putfield 24, 3) := by decide +kernel
theorem dX1_init_37 : decode cX1_init 37 = .ok (.aload_n 0, 1) := by decide +kernel
theorem dX1_init_38 : decode cX1_init 38 = .ok (.bipush 36, 2) := by decide +kernel
theorem dX1_init_40 : decode cX1_init 40 = .ok (.newarray .boolean, 2) := by decide +kernel
theorem dX1_init_42 : decode cX1_init 42 = .ok (.putfield 28, 3) := by decide +kernel
theorem dX1_init_45 : decode cX1_init 45 = .ok (.aload_n 0, 1) := by decide +kernel
theorem dX1_init_46 : decode cX1_init 46 = .ok (.iconst 4, 1) := by decide +kernel
theorem dX1_init_47 : decode cX1_init 47 = .ok (.bipush 36, 2) := by decide +kernel
theorem dX1_init_49 : decode cX1_init 49 = .ok (.multianewarray 31 2, 4) := by decide +kernel
theorem dX1_init_53 : decode cX1_init 53 = .ok (.putfield 33, 3) := by decide +kernel
theorem dX1_init_56 : decode cX1_init 56 = .ok (.iconst 0, 1) := by decide +kernel
theorem dX1_init_57 : decode cX1_init 57 = .ok (.istore_n 1, 1) := by decide +kernel
theorem dX1_init_58 : decode cX1_init 58 = .ok (.iload_n 1, 1) := by decide +kernel
theorem dX1_init_59 : decode cX1_init 59 = .ok (.bipush 36, 2) := by decide +kernel
theorem dX1_init_61 : decode cX1_init 61 = .ok (.if_icmp .ge 22, 3) := by decide +kernel
theorem dX1_init_64 : decode cX1_init 64 = .ok (.aload_n 0, 1) := by decide +kernel
theorem dX1_init_65 : decode cX1_init 65 = .ok (.getfield 17, 3) := by decide +kernel
theorem dX1_init_68 : decode cX1_init 68 = .ok (.iload_n 1, 1) := by decide +kernel
theorem dX1_init_69 : decode cX1_init 69 = .ok (.new 15, 3) := by decide +kernel
theorem dX1_init_72 : decode cX1_init 72 = .ok (.dup, 1) := by decide +kernel
theorem dX1_init_73 : decode cX1_init 73 = .ok (.invokespecial 36, 3) := by decide +kernel
theorem dX1_init_76 : decode cX1_init 76 = .ok (.aastore, 1) := by decide +kernel
theorem dX1_init_77 : decode cX1_init 77 = .ok (.iinc 1 1, 3) := by decide +kernel
theorem dX1_init_80 : decode cX1_init 80 = .ok (.goto (-22), 3) := by decide +kernel
theorem dX1_init_83 : decode cX1_init 83 = .ok (.return_, 1) := by decide +kernel
theorem dX1_isBegun_0 : decode cX1_isBegun 0 = .ok (.aload_n 0, 1) := by decide +kernel
theorem dX1_isBegun_1 : decode cX1_isBegun 1 = .ok (.getfield 37, 3) := by decide +kernel
theorem dX1_isBegun_4 : decode cX1_isBegun 4 = .ok (.ifCond .le 7, 3) := by decide +kernel
theorem dX1_isBegun_7 : decode cX1_isBegun 7 = .ok (.iconst 1, 1) := by decide +kernel
theorem dX1_isBegun_8 : decode cX1_isBegun 8 = .ok (.goto 4, 3) := by decide +kernel
theorem dX1_isBegun_11 : decode cX1_isBegun 11 = .ok (.iconst 0, 1) := by decide +kernel
theorem dX1_isBegun_12 : decode cX1_isBegun 12 = .ok (.ireturn, 1) := by decide +kernel
theorem dX1_isOpen_0 : decode cX1_isOpen 0 = .ok (.aload_n 0, 1) := by decide +kernel
theorem dX1_isOpen_1 : decode cX1_isOpen 1 = .ok (.getfield 41, 3) := by decide +kernel
theorem dX1_isOpen_4 : decode cX1_isOpen 4 = .ok (.aload_n 0, 1) := by decide +kernel
theorem dX1_isOpen_5 : decode cX1_isOpen 5 = .ok (.getfield 37, 3) := by decide +kernel
theorem dX1_isOpen_8 : decode cX1_isOpen 8 = .ok (.if_icmp .ge 7, 3) := by decide +kernel
theorem dX1_isOpen_11 : decode cX1_isOpen 11 = .ok (.iconst 1, 1) := by decide +kernel
theorem dX1_isOpen_12 : decode cX1_isOpen 12 = .ok (.goto 4, 3) := by decide +kernel
theorem dX1_isOpen_15 : decode cX1_isOpen 15 = .ok (.iconst 0, 1) := by decide +kernel
theorem dX1_isOpen_16 : decode cX1_isOpen 16 = .ok (.ireturn, 1) := by decide +kernel
theorem dX1_has_0 : decode cX1_has 0 = .ok (.iload_n 1, 1) := by decide +kernel
theorem dX1_has_1 : decode cX1_has 1 = .ok (.ifCond .lt 15, 3) := by decide +kernel
theorem dX1_has_4 : decode cX1_has 4 = .ok (.iload_n 1, 1) := by decide +kernel
theorem dX1_has_5 : decode cX1_has 5 = .ok (.aload_n 0, 1) := by decide +kernel
theorem dX1_has_6 : decode cX1_has 6 = .ok (.getfield 41, 3) := by decide +kernel
theorem dX1_has_9 : decode cX1_has 9 = .ok (.if_icmp .ge 7, 3) := by decide +kernel
theorem dX1_has_12 : decode cX1_has 12 = .ok (.iconst 1, 1) := by decide +kernel
theorem dX1_has_13 : decode cX1_has 13 = .ok (.goto 4, 3) := by decide +kernel
theorem dX1_has_16 : decode cX1_has 16 = .ok (.iconst 0, 1) := by decide +kernel
theorem dX1_has_17 : decode cX1_has 17 = .ok (.ireturn, 1) := by decide +kernel
theorem dX1_restart_0 : decode cX1_restart 0 = .ok (.aload_n 0, 1) := by decide +kernel
theorem dX1_restart_1 : decode cX1_restart 1 = .ok (.iload_n 1, 1) := by decide +kernel
theorem dX1_restart_2 : decode cX1_restart 2 = .ok (.putfield 37, 3) := by decide +kernel
theorem dX1_restart_5 : decode cX1_restart 5 = .ok (.aload_n 0, 1) := by decide +kernel
theorem dX1_restart_6 : decode cX1_restart 6 = .ok (.iload_n 2, 1) := by decide +kernel
theorem dX1_restart_7 : decode cX1_restart 7 = .ok (.putfield 44, 3) := by decide +kernel
theorem dX1_restart_10 : decode cX1_restart 10 = .ok (.aload_n 0, 1) := by decide +kernel
theorem dX1_restart_11 : decode cX1_restart 11 = .ok (.iload_n 3, 1) := by decide +kernel
theorem dX1_restart_12 : decode cX1_restart 12 = .ok (.putfield 47, 3) := by decide +kernel
theorem dX1_restart_15 : decode cX1_restart 15 = .ok (.aload_n 0, 1) := by decide +kernel
theorem dX1_restart_16 : decode cX1_restart 16 = .ok (.iload 4, 2) := by decide +kernel
theorem dX1_restart_18 : decode cX1_restart 18 = .ok (.putfield 50, 3) := by decide +kernel
theorem dX1_restart_21 : decode cX1_restart 21 = .ok (.aload_n 0, 1) := by decide +kernel
theorem dX1_restart_22 : decode cX1_restart 22 = .ok (.iconst 0, 1) := by decide +kernel
theorem dX1_restart_23 : decode cX1_restart 23 = .ok (.putfield 41, 3) := by decide +kernel
theorem dX1_restart_26 : decode cX1_restart 26 = .ok (.iconst 0, 1) := by decide +kernel
theorem dX1_restart_27 : decode cX1_restart 27 = .ok (.istore 5, 2) := by decide +kernel
theorem dX1_restart_29 : decode cX1_restart 29 = .ok (.iload 5, 2) := by decide +kernel
theorem dX1_restart_31 : decode cX1_restart 31 = .ok (.bipush 36, 2) := by decide +kernel
theorem dX1_restart_33 : decode cX1_restart 33 = .ok (.if_icmp .ge 17, 3) := by decide +kernel
theorem dX1_restart_36 : decode cX1_restart 36 = .ok (.aload_n 0, 1) := by decide +kernel
theorem dX1_restart_37 : decode cX1_restart 37 = .ok (.getfield 9, 3) := by decide +kernel
theorem dX1_restart_40 : decode cX1_restart 40 = .ok (.iload 5, 2) := by decide +kernel
theorem dX1_restart_42 : decode cX1_restart 42 = .ok (.iconst 0, 1) := by decide +kernel
theorem dX1_restart_43 : decode cX1_restart 43 = .ok (.iastore, 1) := by decide +kernel
theorem dX1_restart_44 : decode cX1_restart 44 = .ok (.iinc 5 1, 3) := by decide +kernel
theorem dX1_restart_47 : decode cX1_restart 47 = .ok (.goto (-18), 3) := by decide +kernel
theorem dX1_restart_50 : decode cX1_restart 50 = .ok (.return_, 1) := by decide +kernel
theorem dX1_extend_0 : decode cX1_extend 0 = .ok (.aload_n 0, 1) := by decide +kernel
theorem dX1_extend_1 : decode cX1_extend 1 = .ok (.getfield 41, 3) := by decide +kernel
theorem dX1_extend_4 : decode cX1_extend 4 = .ok (.bipush 36, 2) := by decide +kernel
theorem dX1_extend_6 : decode cX1_extend 6 = .ok (.if_icmp .lt 4, 3) := by decide +kernel
theorem dX1_extend_9 : decode cX1_extend 9 = .ok (.return_, 1) := by decide +kernel
theorem dX1_extend_10 : decode cX1_extend 10 = .ok (.aload_n 0, 1) := by decide +kernel
theorem dX1_extend_11 : decode cX1_extend 11 = .ok (.getfield 17, 3) := by decide +kernel
theorem dX1_extend_14 : decode cX1_extend 14 = .ok (.aload_n 0, 1) := by decide +kernel
theorem dX1_extend_15 : decode cX1_extend 15 = .ok (.getfield 41, 3) := by decide +kernel
theorem dX1_extend_18 : decode cX1_extend 18 = .ok (.aaload, 1) := by decide +kernel
theorem dX1_extend_19 : decode cX1_extend 19 = .ok (.aload_n 1, 1) := by decide +kernel
theorem dX1_extend_20 : decode cX1_extend 20 = .ok (.aload_n 3, 1) := by decide +kernel
theorem dX1_extend_21 : decode cX1_extend 21 = .ok (.invokevirtual 53, 3) := by decide +kernel
theorem dX1_extend_24 : decode cX1_extend 24 = .ok (.aload_n 0, 1) := by decide +kernel
theorem dX1_extend_25 : decode cX1_extend 25 = .ok (.getfield 21, 3) := by decide +kernel
theorem dX1_extend_28 : decode cX1_extend 28 = .ok (.aload_n 0, 1) := by decide +kernel
theorem dX1_extend_29 : decode cX1_extend 29 = .ok (.getfield 41, 3) := by decide +kernel
theorem dX1_extend_32 : decode cX1_extend 32 = .ok (.iload_n 2, 1) := by decide +kernel
theorem dX1_extend_33 : decode cX1_extend 33 = .ok (.iastore, 1) := by decide +kernel
theorem dX1_extend_34 : decode cX1_extend 34 = .ok (.aload_n 0, 1) := by decide +kernel
theorem dX1_extend_35 : decode cX1_extend 35 = .ok (.getfield 24, 3) := by decide +kernel
theorem dX1_extend_38 : decode cX1_extend 38 = .ok (.aload_n 0, 1) := by decide +kernel
theorem dX1_extend_39 : decode cX1_extend 39 = .ok (.getfield 41, 3) := by decide +kernel
theorem dX1_extend_42 : decode cX1_extend 42 = .ok (.iconst 0, 1) := by decide +kernel
theorem dX1_extend_43 : decode cX1_extend 43 = .ok (.bastore, 1) := by decide +kernel
theorem dX1_extend_44 : decode cX1_extend 44 = .ok (.aload_n 0, 1) := by decide +kernel
theorem dX1_extend_45 : decode cX1_extend 45 = .ok (.getfield 28, 3) := by decide +kernel
theorem dX1_extend_48 : decode cX1_extend 48 = .ok (.aload_n 0, 1) := by decide +kernel
theorem dX1_extend_49 : decode cX1_extend 49 = .ok (.getfield 41, 3) := by decide +kernel
theorem dX1_extend_52 : decode cX1_extend 52 = .ok (.iconst 0, 1) := by decide +kernel
theorem dX1_extend_53 : decode cX1_extend 53 = .ok (.bastore, 1) := by decide +kernel
theorem dX1_extend_54 : decode cX1_extend 54 = .ok (.iconst 0, 1) := by decide +kernel
theorem dX1_extend_55 : decode cX1_extend 55 = .ok (.istore 4, 2) := by decide +kernel
theorem dX1_extend_57 : decode cX1_extend 57 = .ok (.iload 4, 2) := by decide +kernel
theorem dX1_extend_59 : decode cX1_extend 59 = .ok (.iconst 4, 1) := by decide +kernel
theorem dX1_extend_60 : decode cX1_extend 60 = .ok (.if_icmp .ge 22, 3) := by decide +kernel
theorem dX1_extend_63 : decode cX1_extend 63 = .ok (.aload_n 0, 1) := by decide +kernel
theorem dX1_extend_64 : decode cX1_extend 64 = .ok (.getfield 33, 3) := by decide +kernel
theorem dX1_extend_67 : decode cX1_extend 67 = .ok (.iload 4, 2) := by decide +kernel
theorem dX1_extend_69 : decode cX1_extend 69 = .ok (.aaload, 1) := by decide +kernel
theorem dX1_extend_70 : decode cX1_extend 70 = .ok (.aload_n 0, 1) := by decide +kernel
theorem dX1_extend_71 : decode cX1_extend 71 = .ok (.getfield 41, 3) := by decide +kernel
theorem dX1_extend_74 : decode cX1_extend 74 = .ok (.iconst (-1), 1) := by decide +kernel
theorem dX1_extend_75 : decode cX1_extend 75 = .ok (.iastore, 1) := by decide +kernel
theorem dX1_extend_76 : decode cX1_extend 76 = .ok (.iinc 4 1, 3) := by decide +kernel
theorem dX1_extend_79 : decode cX1_extend 79 = .ok (.goto (-22), 3) := by decide +kernel
theorem dX1_extend_82 : decode cX1_extend 82 = .ok (.aload_n 0, 1) := by decide +kernel
theorem dX1_extend_83 : decode cX1_extend 83 = .ok (.dup, 1) := by decide +kernel
theorem dX1_extend_84 : decode cX1_extend 84 = .ok (.getfield 41, 3) := by decide +kernel
theorem dX1_extend_87 : decode cX1_extend 87 = .ok (.iconst 1, 1) := by decide +kernel
theorem dX1_extend_88 : decode cX1_extend 88 = .ok (.iadd, 1) := by decide +kernel
theorem dX1_extend_89 : decode cX1_extend 89 = .ok (.putfield 41, 3) := by decide +kernel
theorem dX1_extend_92 : decode cX1_extend 92 = .ok (.return_, 1) := by decide +kernel
theorem dX1_mendLatest_0 : decode cX1_mendLatest 0 = .ok (.aload_n 0, 1) := by decide +kernel
theorem dX1_mendLatest_1 : decode cX1_mendLatest 1 = .ok (.aload_n 0, 1) := by decide +kernel
theorem dX1_mendLatest_2 : decode cX1_mendLatest 2 = .ok (.getfield 41, 3) := by decide +kernel
theorem dX1_mendLatest_5 : decode cX1_mendLatest 5 = .ok (.iconst 1, 1) := by decide +kernel
theorem dX1_mendLatest_6 : decode cX1_mendLatest 6 = .ok (.isub, 1) := by decide +kernel
theorem dX1_mendLatest_7 : decode cX1_mendLatest 7 = .ok (.invokevirtual 57, 3) := by decide +kernel
theorem dX1_mendLatest_10 : decode cX1_mendLatest 10 = .ok (.ifCond .ne 4, 3) := by decide +kernel
theorem dX1_mendLatest_13 : decode cX1_mendLatest 13 = .ok (.return_, 1) := by decide +kernel
theorem dX1_mendLatest_14 : decode cX1_mendLatest 14 = .ok (.aload_n 0, 1) := by decide +kernel
theorem dX1_mendLatest_15 : decode cX1_mendLatest 15 = .ok (.getfield 17, 3) := by decide +kernel
theorem dX1_mendLatest_18 : decode cX1_mendLatest 18 = .ok (.aload_n 0, 1) := by decide +kernel
theorem dX1_mendLatest_19 : decode cX1_mendLatest 19 = .ok (.getfield 41, 3) := by decide +kernel
theorem dX1_mendLatest_22 : decode cX1_mendLatest 22 = .ok (.iconst 1, 1) := by decide +kernel
theorem dX1_mendLatest_23 : decode cX1_mendLatest 23 = .ok (.isub, 1) := by decide +kernel
theorem dX1_mendLatest_24 : decode cX1_mendLatest 24 = .ok (.aaload, 1) := by decide +kernel
theorem dX1_mendLatest_25 : decode cX1_mendLatest 25 = .ok (.aload_n 1, 1) := by decide +kernel
theorem dX1_mendLatest_26 : decode cX1_mendLatest 26 = .ok (.aload_n 2, 1) := by decide +kernel
theorem dX1_mendLatest_27 : decode cX1_mendLatest 27 = .ok (.invokevirtual 53, 3) := by decide +kernel
theorem dX1_mendLatest_30 : decode cX1_mendLatest 30 = .ok (.aload_n 0, 1) := by decide +kernel
theorem dX1_mendLatest_31 : decode cX1_mendLatest 31 = .ok (.getfield 28, 3) := by decide +kernel
theorem dX1_mendLatest_34 : decode cX1_mendLatest 34 = .ok (.aload_n 0, 1) := by decide +kernel
theorem dX1_mendLatest_35 : decode cX1_mendLatest 35 = .ok (.getfield 41, 3) := by decide +kernel
theorem dX1_mendLatest_38 : decode cX1_mendLatest 38 = .ok (.iconst 1, 1) := by decide +kernel
theorem dX1_mendLatest_39 : decode cX1_mendLatest 39 = .ok (.isub, 1) := by decide +kernel
theorem dX1_mendLatest_40 : decode cX1_mendLatest 40 = .ok (.iconst 1, 1) := by decide +kernel
theorem dX1_mendLatest_41 : decode cX1_mendLatest 41 = .ok (.bastore, 1) := by decide +kernel
theorem dX1_mendLatest_42 : decode cX1_mendLatest 42 = .ok (.return_, 1) := by decide +kernel
theorem dX1_setSeat_0 : decode cX1_setSeat 0 = .ok (.iload_n 1, 1) := by decide +kernel
theorem dX1_setSeat_1 : decode cX1_setSeat 1 = .ok (.ifCond .lt 16, 3) := by decide +kernel
theorem dX1_setSeat_4 : decode cX1_setSeat 4 = .ok (.iload_n 1, 1) := by decide +kernel
theorem dX1_setSeat_5 : decode cX1_setSeat 5 = .ok (.bipush 36, 2) := by decide +kernel
theorem dX1_setSeat_7 : decode cX1_setSeat 7 = .ok (.if_icmp .ge 10, 3) := by decide +kernel
theorem dX1_setSeat_10 : decode cX1_setSeat 10 = .ok (.aload_n 0, 1) := by decide +kernel
theorem dX1_setSeat_11 : decode cX1_setSeat 11 = .ok (.getfield 9, 3) := by decide +kernel
theorem dX1_setSeat_14 : decode cX1_setSeat 14 = .ok (.iload_n 1, 1) := by decide +kernel
theorem dX1_setSeat_15 : decode cX1_setSeat 15 = .ok (.iload_n 2, 1) := by decide +kernel
theorem dX1_setSeat_16 : decode cX1_setSeat 16 = .ok (.iastore, 1) := by decide +kernel
theorem dX1_setSeat_17 : decode cX1_setSeat 17 = .ok (.return_, 1) := by decide +kernel
theorem dX1_seatAt_0 : decode cX1_seatAt 0 = .ok (.iload_n 1, 1) := by decide +kernel
theorem dX1_seatAt_1 : decode cX1_seatAt 1 = .ok (.ifCond .lt 18, 3) := by decide +kernel
theorem dX1_seatAt_4 : decode cX1_seatAt 4 = .ok (.iload_n 1, 1) := by decide +kernel
theorem dX1_seatAt_5 : decode cX1_seatAt 5 = .ok (.bipush 36, 2) := by decide +kernel
theorem dX1_seatAt_7 : decode cX1_seatAt 7 = .ok (.if_icmp .ge 12, 3) := by decide +kernel
theorem dX1_seatAt_10 : decode cX1_seatAt 10 = .ok (.aload_n 0, 1) := by decide +kernel
theorem dX1_seatAt_11 : decode cX1_seatAt 11 = .ok (.getfield 9, 3) := by decide +kernel
theorem dX1_seatAt_14 : decode cX1_seatAt 14 = .ok (.iload_n 1, 1) := by decide +kernel
theorem dX1_seatAt_15 : decode cX1_seatAt 15 = .ok (.iaload, 1) := by decide +kernel
theorem dX1_seatAt_16 : decode cX1_seatAt 16 = .ok (.goto 4, 3) := by decide +kernel
theorem dX1_seatAt_19 : decode cX1_seatAt 19 = .ok (.iconst 0, 1) := by decide +kernel
theorem dX1_seatAt_20 : decode cX1_seatAt 20 = .ok (.ireturn, 1) := by decide +kernel
theorem dX1_soundsAt_0 : decode cX1_soundsAt 0 = .ok (.iload_n 1, 1) := by decide +kernel
theorem dX1_soundsAt_1 : decode cX1_soundsAt 1 = .ok (.iconst 1, 1) := by decide +kernel
theorem dX1_soundsAt_2 : decode cX1_soundsAt 2 = .ok (.iand, 1) := by decide +kernel
theorem dX1_soundsAt_3 : decode cX1_soundsAt 3 = .ok (.ifCond .ne 10, 3) := by decide +kernel
theorem dX1_soundsAt_6 : decode cX1_soundsAt 6 = .ok (.aload_n 0, 1) := by decide +kernel
theorem dX1_soundsAt_7 : decode cX1_soundsAt 7 = .ok (.getfield 47, 3) := by decide +kernel
theorem dX1_soundsAt_10 : decode cX1_soundsAt 10 = .ok (.goto 7, 3) := by decide +kernel
theorem dX1_soundsAt_13 : decode cX1_soundsAt 13 = .ok (.aload_n 0, 1) := by decide +kernel
theorem dX1_soundsAt_14 : decode cX1_soundsAt 14 = .ok (.getfield 50, 3) := by decide +kernel
theorem dX1_soundsAt_17 : decode cX1_soundsAt 17 = .ok (.ireturn, 1) := by decide +kernel
theorem dX1_makerAt_0 : decode cX1_makerAt 0 = .ok (.aload_n 0, 1) := by decide +kernel
theorem dX1_makerAt_1 : decode cX1_makerAt 1 = .ok (.iload_n 1, 1) := by decide +kernel
theorem dX1_makerAt_2 : decode cX1_makerAt 2 = .ok (.invokevirtual 57, 3) := by decide +kernel
theorem dX1_makerAt_5 : decode cX1_makerAt 5 = .ok (.ifCond .eq 12, 3) := by decide +kernel
theorem dX1_makerAt_8 : decode cX1_makerAt 8 = .ok (.aload_n 0, 1) := by decide +kernel
theorem dX1_makerAt_9 : decode cX1_makerAt 9 = .ok (.getfield 21, 3) := by decide +kernel
theorem dX1_makerAt_12 : decode cX1_makerAt 12 = .ok (.iload_n 1, 1) := by decide +kernel
theorem dX1_makerAt_13 : decode cX1_makerAt 13 = .ok (.iaload, 1) := by decide +kernel
theorem dX1_makerAt_14 : decode cX1_makerAt 14 = .ok (.goto 4, 3) := by decide +kernel
theorem dX1_makerAt_17 : decode cX1_makerAt 17 = .ok (.iconst (-1), 1) := by decide +kernel
theorem dX1_makerAt_18 : decode cX1_makerAt 18 = .ok (.ireturn, 1) := by decide +kernel
theorem dX1_seasonAt_0 : decode cX1_seasonAt 0 = .ok (.aload_n 0, 1) := by decide +kernel
theorem dX1_seasonAt_1 : decode cX1_seasonAt 1 = .ok (.iload_n 1, 1) := by decide +kernel
theorem dX1_seasonAt_2 : decode cX1_seasonAt 2 = .ok (.invokevirtual 57, 3) := by decide +kernel
theorem dX1_seasonAt_5 : decode cX1_seasonAt 5 = .ok (.ifCond .eq 15, 3) := by decide +kernel
theorem dX1_seasonAt_8 : decode cX1_seasonAt 8 = .ok (.aload_n 0, 1) := by decide +kernel
theorem dX1_seasonAt_9 : decode cX1_seasonAt 9 = .ok (.getfield 17, 3) := by decide +kernel
theorem dX1_seasonAt_12 : decode cX1_seasonAt 12 = .ok (.iload_n 1, 1) := by decide +kernel
theorem dX1_seasonAt_13 : decode cX1_seasonAt 13 = .ok (.aaload, 1) := by decide +kernel
theorem dX1_seasonAt_14 : decode cX1_seasonAt 14 = .ok (.getfield 61, 3) := by decide +kernel
theorem dX1_seasonAt_17 : decode cX1_seasonAt 17 = .ok (.goto 4, 3) := by decide +kernel
theorem dX1_seasonAt_20 : decode cX1_seasonAt 20 = .ok (.iconst (-1), 1) := by decide +kernel
theorem dX1_seasonAt_21 : decode cX1_seasonAt 21 = .ok (.ireturn, 1) := by decide +kernel
theorem dX1_signsAt_0 : decode cX1_signsAt 0 = .ok (.aload_n 0, 1) := by decide +kernel
theorem dX1_signsAt_1 : decode cX1_signsAt 1 = .ok (.iload_n 1, 1) := by decide +kernel
theorem dX1_signsAt_2 : decode cX1_signsAt 2 = .ok (.invokevirtual 57, 3) := by decide +kernel
theorem dX1_signsAt_5 : decode cX1_signsAt 5 = .ok (.ifCond .eq 15, 3) := by decide +kernel
theorem dX1_signsAt_8 : decode cX1_signsAt 8 = .ok (.aload_n 0, 1) := by decide +kernel
theorem dX1_signsAt_9 : decode cX1_signsAt 9 = .ok (.getfield 17, 3) := by decide +kernel
theorem dX1_signsAt_12 : decode cX1_signsAt 12 = .ok (.iload_n 1, 1) := by decide +kernel
theorem dX1_signsAt_13 : decode cX1_signsAt 13 = .ok (.aaload, 1) := by decide +kernel
theorem dX1_signsAt_14 : decode cX1_signsAt 14 = .ok (.getfield 64, 3) := by decide +kernel
theorem dX1_signsAt_17 : decode cX1_signsAt 17 = .ok (.goto 4, 3) := by decide +kernel
theorem dX1_signsAt_20 : decode cX1_signsAt 20 = .ok (.iconst 0, 1) := by decide +kernel
theorem dX1_signsAt_21 : decode cX1_signsAt 21 = .ok (.ireturn, 1) := by decide +kernel
theorem dX1_wordSetAt_0 : decode cX1_wordSetAt 0 = .ok (.aload_n 0, 1) := by decide +kernel
theorem dX1_wordSetAt_1 : decode cX1_wordSetAt 1 = .ok (.iload_n 1, 1) := by decide +kernel
theorem dX1_wordSetAt_2 : decode cX1_wordSetAt 2 = .ok (.invokevirtual 57, 3) := by decide +kernel
theorem dX1_wordSetAt_5 : decode cX1_wordSetAt 5 = .ok (.ifCond .eq 15, 3) := by decide +kernel
theorem dX1_wordSetAt_8 : decode cX1_wordSetAt 8 = .ok (.aload_n 0, 1) := by decide +kernel
theorem dX1_wordSetAt_9 : decode cX1_wordSetAt 9 = .ok (.getfield 17, 3) := by decide +kernel
theorem dX1_wordSetAt_12 : decode cX1_wordSetAt 12 = .ok (.iload_n 1, 1) := by decide +kernel
theorem dX1_wordSetAt_13 : decode cX1_wordSetAt 13 = .ok (.aaload, 1) := by decide +kernel
theorem dX1_wordSetAt_14 : decode cX1_wordSetAt 14 = .ok (.getfield 67, 3) := by decide +kernel
theorem dX1_wordSetAt_17 : decode cX1_wordSetAt 17 = .ok (.goto 4, 3) := by decide +kernel
theorem dX1_wordSetAt_20 : decode cX1_wordSetAt 20 = .ok (.lconst 0, 1) := by decide +kernel
theorem dX1_wordSetAt_21 : decode cX1_wordSetAt 21 = .ok (.lreturn, 1) := by decide +kernel
theorem dX1_wordOrNone_0 : decode cX1_wordOrNone 0 = .ok (.aload_n 0, 1) := by decide +kernel
theorem dX1_wordOrNone_1 : decode cX1_wordOrNone 1 = .ok (.iload_n 1, 1) := by decide +kernel
theorem dX1_wordOrNone_2 : decode cX1_wordOrNone 2 = .ok (.invokevirtual 57, 3) := by decide +kernel
theorem dX1_wordOrNone_5 : decode cX1_wordOrNone 5 = .ok (.ifCond .eq 16, 3) := by decide +kernel
theorem dX1_wordOrNone_8 : decode cX1_wordOrNone 8 = .ok (.aload_n 0, 1) := by decide +kernel
theorem dX1_wordOrNone_9 : decode cX1_wordOrNone 9 = .ok (.getfield 17, 3) := by decide +kernel
theorem dX1_wordOrNone_12 : decode cX1_wordOrNone 12 = .ok (.iload_n 1, 1) := by decide +kernel
theorem dX1_wordOrNone_13 : decode cX1_wordOrNone 13 = .ok (.aaload, 1) := by decide +kernel
theorem dX1_wordOrNone_14 : decode cX1_wordOrNone 14 = .ok (.iload_n 2, 1) := by decide +kernel
theorem dX1_wordOrNone_15 : decode cX1_wordOrNone 15 = .ok (.invokevirtual 71, 3) := by decide +kernel
theorem dX1_wordOrNone_18 : decode cX1_wordOrNone 18 = .ok (.goto 4, 3) := by decide +kernel
theorem dX1_wordOrNone_21 : decode cX1_wordOrNone 21 = .ok (.iconst (-1), 1) := by decide +kernel
theorem dX1_wordOrNone_22 : decode cX1_wordOrNone 22 = .ok (.ireturn, 1) := by decide +kernel
theorem dX1_pointsOf_0 : decode cX1_pointsOf 0 = .ok (.iload_n 1, 1) := by decide +kernel
theorem dX1_pointsOf_1 : decode cX1_pointsOf 1 = .ok (.ifCond .lt 20, 3) := by decide +kernel
theorem dX1_pointsOf_4 : decode cX1_pointsOf 4 = .ok (.iload_n 1, 1) := by decide +kernel
theorem dX1_pointsOf_5 : decode cX1_pointsOf 5 = .ok (.iconst 4, 1) := by decide +kernel
theorem dX1_pointsOf_6 : decode cX1_pointsOf 6 = .ok (.if_icmp .ge 15, 3) := by decide +kernel
theorem dX1_pointsOf_9 : decode cX1_pointsOf 9 = .ok (.aload_n 0, 1) := by decide +kernel
theorem dX1_pointsOf_10 : decode cX1_pointsOf 10 = .ok (.iload_n 2, 1) := by decide +kernel
theorem dX1_pointsOf_11 : decode cX1_pointsOf 11 = .ok (.invokevirtual 57, 3) := by decide +kernel
theorem dX1_pointsOf_14 : decode cX1_pointsOf 14 = .ok (.ifCond .eq 7, 3) := by decide +kernel
theorem dX1_pointsOf_17 : decode cX1_pointsOf 17 = .ok (.iconst 1, 1) := by decide +kernel
theorem dX1_pointsOf_18 : decode cX1_pointsOf 18 = .ok (.goto 4, 3) := by decide +kernel
theorem dX1_pointsOf_21 : decode cX1_pointsOf 21 = .ok (.iconst 0, 1) := by decide +kernel
theorem dX1_pointsOf_22 : decode cX1_pointsOf 22 = .ok (.istore_n 3, 1) := by decide +kernel
theorem dX1_pointsOf_23 : decode cX1_pointsOf 23 = .ok (.iload_n 3, 1) := by decide +kernel
theorem dX1_pointsOf_24 : decode cX1_pointsOf 24 = .ok (.ifCond .eq 14, 3) := by decide +kernel
theorem dX1_pointsOf_27 : decode cX1_pointsOf 27 = .ok (.aload_n 0, 1) := by decide +kernel
theorem dX1_pointsOf_28 : decode cX1_pointsOf 28 = .ok (.getfield 33, 3) := by decide +kernel
theorem dX1_pointsOf_31 : decode cX1_pointsOf 31 = .ok (.iload_n 1, 1) := by decide +kernel
theorem dX1_pointsOf_32 : decode cX1_pointsOf 32 = .ok (.aaload, 1) := by decide +kernel
theorem dX1_pointsOf_33 : decode cX1_pointsOf 33 = .ok (.iload_n 2, 1) := by decide +kernel
theorem dX1_pointsOf_34 : decode cX1_pointsOf 34 = .ok (.iaload, 1) := by decide +kernel
theorem dX1_pointsOf_35 : decode cX1_pointsOf 35 = .ok (.goto 4, 3) := by decide +kernel
theorem dX1_pointsOf_38 : decode cX1_pointsOf 38 = .ok (.iconst (-1), 1) := by decide +kernel
theorem dX1_pointsOf_39 : decode cX1_pointsOf 39 = .ok (.ireturn, 1) := by decide +kernel
theorem dX1_runAt_0 : decode cX1_runAt 0 = .ok (.aload_n 0, 1) := by decide +kernel
theorem dX1_runAt_1 : decode cX1_runAt 1 = .ok (.iload_n 1, 1) := by decide +kernel
theorem dX1_runAt_2 : decode cX1_runAt 2 = .ok (.invokevirtual 75, 3) := by decide +kernel
theorem dX1_runAt_5 : decode cX1_runAt 5 = .ok (.istore_n 2, 1) := by decide +kernel
theorem dX1_runAt_6 : decode cX1_runAt 6 = .ok (.iload_n 2, 1) := by decide +kernel
theorem dX1_runAt_7 : decode cX1_runAt 7 = .ok (.iconst (-1), 1) := by decide +kernel
theorem dX1_runAt_8 : decode cX1_runAt 8 = .ok (.if_icmp .ne 5, 3) := by decide +kernel
theorem dX1_runAt_11 : decode cX1_runAt 11 = .ok (.iconst 0, 1) := by decide +kernel
theorem dX1_runAt_12 : decode cX1_runAt 12 = .ok (.ireturn, 1) := by decide +kernel
theorem dX1_runAt_13 : decode cX1_runAt 13 = .ok (.iconst 0, 1) := by decide +kernel
theorem dX1_runAt_14 : decode cX1_runAt 14 = .ok (.istore_n 3, 1) := by decide +kernel
theorem dX1_runAt_15 : decode cX1_runAt 15 = .ok (.iload_n 1, 1) := by decide +kernel
theorem dX1_runAt_16 : decode cX1_runAt 16 = .ok (.istore 4, 2) := by decide +kernel
theorem dX1_runAt_18 : decode cX1_runAt 18 = .ok (.iload 4, 2) := by decide +kernel
theorem dX1_runAt_20 : decode cX1_runAt 20 = .ok (.ifCond .lt 22, 3) := by decide +kernel
theorem dX1_runAt_23 : decode cX1_runAt 23 = .ok (.aload_n 0, 1) := by decide +kernel
theorem dX1_runAt_24 : decode cX1_runAt 24 = .ok (.iload 4, 2) := by decide +kernel
theorem dX1_runAt_26 : decode cX1_runAt 26 = .ok (.invokevirtual 75, 3) := by decide +kernel
theorem dX1_runAt_29 : decode cX1_runAt 29 = .ok (.iload_n 2, 1) := by decide +kernel
theorem dX1_runAt_30 : decode cX1_runAt 30 = .ok (.if_icmp .ne 12, 3) := by decide +kernel
theorem dX1_runAt_33 : decode cX1_runAt 33 = .ok (.iinc 3 1, 3) := by decide +kernel
theorem dX1_runAt_36 : decode cX1_runAt 36 = .ok (.iinc 4 (-1), 3) := by decide +kernel
theorem dX1_runAt_39 : decode cX1_runAt 39 = .ok (.goto (-21), 3) := by decide +kernel
theorem dX1_runAt_42 : decode cX1_runAt 42 = .ok (.iload_n 3, 1) := by decide +kernel
theorem dX1_runAt_43 : decode cX1_runAt 43 = .ok (.ireturn, 1) := by decide +kernel
theorem dX2_init_0 : decode cX2_init 0 = .ok (.aload_n 0, 1) := by decide +kernel
theorem dX2_init_1 : decode cX2_init 1 = .ok (.invokespecial 3, 3) := by decide +kernel
theorem dX2_init_4 : decode cX2_init 4 = .ok (.aload_n 0, 1) := by decide +kernel
theorem dX2_init_5 : decode cX2_init 5 = .ok (.aload_n 1, 1) := by decide +kernel
theorem dX2_init_6 : decode cX2_init 6 = .ok (.putfield 9, 3) := by decide +kernel
theorem dX2_init_9 : decode cX2_init 9 = .ok (.aload_n 0, 1) := by decide +kernel
theorem dX2_init_10 : decode cX2_init 10 = .ok (.aload_n 2, 1) := by decide +kernel
theorem dX2_init_11 : decode cX2_init 11 = .ok (.putfield 15, 3) := by decide +kernel
theorem dX2_init_14 : decode cX2_init 14 = .ok (.return_, 1) := by decide +kernel
theorem dX2_firstFault_0 : decode cX2_firstFault 0 = .ok (.iconst 1, 1) := by decide +kernel
theorem dX2_firstFault_1 : decode cX2_firstFault 1 = .ok (.istore 4, 2) := by decide +kernel
theorem dX2_firstFault_3 : decode cX2_firstFault 3 = .ok (.iload 4, 2) := by decide +kernel
theorem dX2_firstFault_5 : decode cX2_firstFault 5 = .ok (.bipush 8, 2) := by decide +kernel
theorem dX2_firstFault_7 : decode cX2_firstFault 7 = .ok (.if_icmp .gt 25, 3) := by decide +kernel
theorem dX2_firstFault_10 : decode cX2_firstFault 10 = .ok (.aload_n 0, 1) := by decide +kernel
theorem dX2_firstFault_11 : decode cX2_firstFault 11 = .ok (.iload 4, 2) := by decide +kernel
theorem dX2_firstFault_13 : decode cX2_firstFault 13 = .ok (.aload_n 1, 1) := by decide +kernel
theorem dX2_firstFault_14 : decode cX2_firstFault 14 = .ok (.iload_n 2, 1) := by decide +kernel
theorem dX2_firstFault_15 : decode cX2_firstFault 15 = .ok (.iload_n 3, 1) := by decide +kernel
theorem dX2_firstFault_16 : decode cX2_firstFault 16 = .ok (.invokevirtual 19, 3) := by decide +kernel
theorem dX2_firstFault_19 : decode cX2_firstFault 19 = .ok (.iconst (-1), 1) := by decide +kernel
theorem dX2_firstFault_20 : decode cX2_firstFault 20 = .ok (.if_icmp .eq 6, 3) := by decide +kernel
theorem dX2_firstFault_23 : decode cX2_firstFault 23 = .ok (.iload 4, 2) := by decide +kernel
theorem dX2_firstFault_25 : decode cX2_firstFault 25 = .ok (.ireturn, 1) := by decide +kernel
theorem dX2_firstFault_26 : decode cX2_firstFault 26 = .ok (.iinc 4 1, 3) := by decide +kernel
theorem dX2_firstFault_29 : decode cX2_firstFault 29 = .ok (.goto (-26), 3) := by decide +kernel
theorem dX2_firstFault_32 : decode cX2_firstFault 32 = .ok (.iconst 0, 1) := by decide +kernel
theorem dX2_firstFault_33 : decode cX2_firstFault 33 = .ok (.ireturn, 1) := by decide +kernel
theorem dX2_causeOf_0 : decode cX2_causeOf 0 = .ok (.iload_n 1, 1) := by decide +kernel
theorem dX2_causeOf_1 : decode cX2_causeOf 1 = .ok (.tableswitch 155 1 7 #[43, 67, 73, 80, 102, 125, 145], 43) := by decide +kernel
theorem dX2_causeOf_44 : decode cX2_causeOf 44 = .ok (.aload_n 2, 1) := by decide +kernel
theorem dX2_causeOf_45 : decode cX2_causeOf 45 = .ok (.getfield 23, 3) := by decide +kernel
theorem dX2_causeOf_48 : decode cX2_causeOf 48 = .ok (.aload_n 0, 1) := by decide +kernel
theorem dX2_causeOf_49 : decode cX2_causeOf 49 = .ok (.getfield 15, 3) := by decide +kernel
theorem dX2_causeOf_52 : decode cX2_causeOf 52 = .ok (.iload_n 3, 1) := by decide +kernel
theorem dX2_causeOf_53 : decode cX2_causeOf 53 = .ok (.invokevirtual 29, 3) := by decide +kernel
theorem dX2_causeOf_56 : decode cX2_causeOf 56 = .ok (.if_icmp .ne 7, 3) := by decide +kernel
theorem dX2_causeOf_59 : decode cX2_causeOf 59 = .ok (.iconst (-1), 1) := by decide +kernel
theorem dX2_causeOf_60 : decode cX2_causeOf 60 = .ok (.goto 7, 3) := by decide +kernel
theorem dX2_causeOf_63 : decode cX2_causeOf 63 = .ok (.aload_n 2, 1) := by decide +kernel
theorem dX2_causeOf_64 : decode cX2_causeOf 64 = .ok (.getfield 23, 3) := by decide +kernel
theorem dX2_causeOf_67 : decode cX2_causeOf 67 = .ok (.ireturn, 1) := by decide +kernel
theorem dX2_causeOf_68 : decode cX2_causeOf 68 = .ok (.aload_n 0, 1) := by decide +kernel
theorem dX2_causeOf_69 : decode cX2_causeOf 69 = .ok (.aload_n 2, 1) := by decide +kernel
theorem dX2_causeOf_70 : decode cX2_causeOf 70 = .ok (.invokevirtual 35, 3) := by decide +kernel
theorem dX2_causeOf_73 : decode cX2_causeOf 73 = .ok (.ireturn, 1) := by decide +kernel
theorem dX2_causeOf_74 : decode cX2_causeOf 74 = .ok (.aload_n 0, 1) := by decide +kernel
theorem dX2_causeOf_75 : decode cX2_causeOf 75 = .ok (.aload_n 2, 1) := by decide +kernel
theorem dX2_causeOf_76 : decode cX2_causeOf 76 = .ok (.iload_n 3, 1) := by decide +kernel
theorem dX2_causeOf_77 : decode cX2_causeOf 77 = .ok (.invokevirtual 39, 3) := by decide +kernel
theorem dX2_causeOf_80 : decode cX2_causeOf 80 = .ok (.ireturn, 1) := by decide +kernel
theorem dX2_causeOf_81 : decode cX2_causeOf 81 = .ok (.iload 4, 2) := by decide +kernel
theorem dX2_causeOf_83 : decode cX2_causeOf 83 = .ok (.aload_n 0, 1) := by decide +kernel
theorem dX2_causeOf_84 : decode cX2_causeOf 84 = .ok (.getfield 15, 3) := by decide +kernel
theorem dX2_causeOf_87 : decode cX2_causeOf 87 = .ok (.iload_n 3, 1) := by decide +kernel
theorem dX2_causeOf_88 : decode cX2_causeOf 88 = .ok (.iconst 1, 1) := by decide +kernel
theorem dX2_causeOf_89 : decode cX2_causeOf 89 = .ok (.isub, 1) := by decide +kernel
theorem dX2_causeOf_90 : decode cX2_causeOf 90 = .ok (.invokevirtual 43, 3) := by decide +kernel
theorem dX2_causeOf_93 : decode cX2_causeOf 93 = .ok (.if_icmp .ne 8, 3) := by decide +kernel
theorem dX2_causeOf_96 : decode cX2_causeOf 96 = .ok (.iload 4, 2) := by decide +kernel
theorem dX2_causeOf_98 : decode cX2_causeOf 98 = .ok (.goto 4, 3) := by decide +kernel
theorem dX2_causeOf_101 : decode cX2_causeOf 101 = .ok (.iconst (-1), 1) := by decide +kernel
theorem dX2_causeOf_102 : decode cX2_causeOf 102 = .ok (.ireturn, 1) := by decide +kernel
theorem dX2_causeOf_103 : decode cX2_causeOf 103 = .ok (.iload_n 3, 1) := by decide +kernel
theorem dX2_causeOf_104 : decode cX2_causeOf 104 = .ok (.ifCond .eq 14, 3) := by decide +kernel
theorem dX2_causeOf_107 : decode cX2_causeOf 107 = .ok (.aload_n 0, 1) := by decide +kernel
theorem dX2_causeOf_108 : decode cX2_causeOf 108 = .ok (.aload_n 2, 1) := by decide +kernel
theorem dX2_causeOf_109 : decode cX2_causeOf 109 = .ok (.iload_n 3, 1) := by decide +kernel
theorem dX2_causeOf_110 : decode cX2_causeOf 110 = .ok (.iconst 1, 1) := by decide +kernel
theorem dX2_causeOf_111 : decode cX2_causeOf 111 = .ok (.isub, 1) := by decide +kernel
theorem dX2_causeOf_112 : decode cX2_causeOf 112 = .ok (.invokevirtual 46, 3) := by decide +kernel
theorem dX2_causeOf_115 : decode cX2_causeOf 115 = .ok (.ifCond .eq 7, 3) := by decide +kernel
theorem dX2_causeOf_118 : decode cX2_causeOf 118 = .ok (.iconst (-1), 1) := by decide +kernel
theorem dX2_causeOf_119 : decode cX2_causeOf 119 = .ok (.goto 6, 3) := by decide +kernel
theorem dX2_causeOf_122 : decode cX2_causeOf 122 = .ok (.iload_n 3, 1) := by decide +kernel
theorem dX2_causeOf_123 : decode cX2_causeOf 123 = .ok (.iconst 1, 1) := by decide +kernel
theorem dX2_causeOf_124 : decode cX2_causeOf 124 = .ok (.isub, 1) := by decide +kernel
theorem dX2_causeOf_125 : decode cX2_causeOf 125 = .ok (.ireturn, 1) := by decide +kernel
theorem dX2_causeOf_126 : decode cX2_causeOf 126 = .ok (.aload_n 0, 1) := by decide +kernel
theorem dX2_causeOf_127 : decode cX2_causeOf 127 = .ok (.aload_n 2, 1) := by decide +kernel
theorem dX2_causeOf_128 : decode cX2_causeOf 128 = .ok (.getfield 50, 3) := by decide +kernel
theorem dX2_causeOf_131 : decode cX2_causeOf 131 = .ok (.aload_n 0, 1) := by decide +kernel
theorem dX2_causeOf_132 : decode cX2_causeOf 132 = .ok (.getfield 15, 3) := by decide +kernel
theorem dX2_causeOf_135 : decode cX2_causeOf 135 = .ok (.iload_n 3, 1) := by decide +kernel
theorem dX2_causeOf_136 : decode cX2_causeOf 136 = .ok (.iconst 2, 1) := by decide +kernel
theorem dX2_causeOf_137 : decode cX2_causeOf 137 = .ok (.isub, 1) := by decide +kernel
theorem dX2_causeOf_138 : decode cX2_causeOf 138 = .ok (.invokevirtual 53, 3) := by decide +kernel
theorem dX2_causeOf_141 : decode cX2_causeOf 141 = .ok (.iand, 1) := by decide +kernel
theorem dX2_causeOf_142 : decode cX2_causeOf 142 = .ok (.invokevirtual 56, 3) := by decide +kernel
theorem dX2_causeOf_145 : decode cX2_causeOf 145 = .ok (.ireturn, 1) := by decide +kernel
theorem dX2_causeOf_146 : decode cX2_causeOf 146 = .ok (.aload_n 0, 1) := by decide +kernel
theorem dX2_causeOf_147 : decode cX2_causeOf 147 = .ok (.aload_n 2, 1) := by decide +kernel
theorem dX2_causeOf_148 : decode cX2_causeOf 148 = .ok (.getfield 59, 3) := by decide +kernel
theorem dX2_causeOf_151 : decode cX2_causeOf 151 = .ok (.iload_n 3, 1) := by decide +kernel
theorem dX2_causeOf_152 : decode cX2_causeOf 152 = .ok (.invokevirtual 62, 3) := by decide +kernel
theorem dX2_causeOf_155 : decode cX2_causeOf 155 = .ok (.ireturn, 1) := by decide +kernel
theorem dX2_causeOf_156 : decode cX2_causeOf 156 = .ok (.aload_n 0, 1) := by decide +kernel
theorem dX2_causeOf_157 : decode cX2_causeOf 157 = .ok (.aload_n 2, 1) := by decide +kernel
theorem dX2_causeOf_158 : decode cX2_causeOf 158 = .ok (.getfield 50, 3) := by decide +kernel
theorem dX2_causeOf_161 : decode cX2_causeOf 161 = .ok (.aload_n 0, 1) := by decide +kernel
theorem dX2_causeOf_162 : decode cX2_causeOf 162 = .ok (.getfield 15, 3) := by decide +kernel
theorem dX2_causeOf_165 : decode cX2_causeOf 165 = .ok (.iload_n 3, 1) := by decide +kernel
theorem dX2_causeOf_166 : decode cX2_causeOf 166 = .ok (.invokevirtual 66, 3) := by decide +kernel
theorem dX2_causeOf_169 : decode cX2_causeOf 169 = .ok (.invokevirtual 69, 3) := by decide +kernel
theorem dX2_causeOf_172 : decode cX2_causeOf 172 = .ok (.ireturn, 1) := by decide +kernel
theorem dX2_unlikeSeasonPlace_0 : decode cX2_unlikeSeasonPlace 0 = .ok (.iconst 0, 1) := by decide +kernel
theorem dX2_unlikeSeasonPlace_1 : decode cX2_unlikeSeasonPlace 1 = .ok (.istore_n 2, 1) := by decide +kernel
theorem dX2_unlikeSeasonPlace_2 : decode cX2_unlikeSeasonPlace 2 = .ok (.iload_n 2, 1) := by decide +kernel
theorem dX2_unlikeSeasonPlace_3 : decode cX2_unlikeSeasonPlace 3 = .ok (.aload_n 1, 1) := by decide +kernel
theorem dX2_unlikeSeasonPlace_4 : decode cX2_unlikeSeasonPlace 4 = .ok (.getfield 72, 3) := by decide +kernel
theorem dX2_unlikeSeasonPlace_7 : decode cX2_unlikeSeasonPlace 7 = .ok (.if_icmp .ge 37, 3) := by decide +kernel
theorem dX2_unlikeSeasonPlace_10 : decode cX2_unlikeSeasonPlace 10 = .ok (.aload_n 0, 1) := by decide +kernel
theorem dX2_unlikeSeasonPlace_11 : decode cX2_unlikeSeasonPlace 11 = .ok (.getfield 9, 3) := by decide +kernel
theorem dX2_unlikeSeasonPlace_14 : decode cX2_unlikeSeasonPlace 14 = .ok (.aload_n 1, 1) := by decide +kernel
theorem dX2_unlikeSeasonPlace_15 : decode cX2_unlikeSeasonPlace 15 = .ok (.iload_n 2, 1) := by decide +kernel
theorem dX2_unlikeSeasonPlace_16 : decode cX2_unlikeSeasonPlace 16 = .ok (.invokevirtual 75, 3) := by decide +kernel
theorem dX2_unlikeSeasonPlace_19 : decode cX2_unlikeSeasonPlace 19 = .ok (.invokevirtual 78, 3) := by decide +kernel
theorem dX2_unlikeSeasonPlace_22 : decode cX2_unlikeSeasonPlace 22 = .ok (.istore_n 3, 1) := by decide +kernel
theorem dX2_unlikeSeasonPlace_23 : decode cX2_unlikeSeasonPlace 23 = .ok (.iload_n 3, 1) := by decide +kernel
theorem dX2_unlikeSeasonPlace_24 : decode cX2_unlikeSeasonPlace 24 = .ok (.iconst (-1), 1) := by decide +kernel
theorem dX2_unlikeSeasonPlace_25 : decode cX2_unlikeSeasonPlace 25 = .ok (.if_icmp .eq 13, 3) := by decide +kernel
theorem dX2_unlikeSeasonPlace_28 : decode cX2_unlikeSeasonPlace 28 = .ok (.iload_n 3, 1) := by decide +kernel
theorem dX2_unlikeSeasonPlace_29 : decode cX2_unlikeSeasonPlace 29 = .ok (.aload_n 1, 1) := by decide +kernel
theorem dX2_unlikeSeasonPlace_30 : decode cX2_unlikeSeasonPlace 30 = .ok (.getfield 59, 3) := by decide +kernel
theorem dX2_unlikeSeasonPlace_33 : decode cX2_unlikeSeasonPlace 33 = .ok (.if_icmp .eq 5, 3) := by decide +kernel
theorem dX2_unlikeSeasonPlace_36 : decode cX2_unlikeSeasonPlace 36 = .ok (.iload_n 2, 1) := by decide +kernel
theorem dX2_unlikeSeasonPlace_37 : decode cX2_unlikeSeasonPlace 37 = .ok (.ireturn, 1) := by decide +kernel
theorem dX2_unlikeSeasonPlace_38 : decode cX2_unlikeSeasonPlace 38 = .ok (.iinc 2 1, 3) := by decide +kernel
theorem dX2_unlikeSeasonPlace_41 : decode cX2_unlikeSeasonPlace 41 = .ok (.goto (-39), 3) := by decide +kernel
theorem dX2_unlikeSeasonPlace_44 : decode cX2_unlikeSeasonPlace 44 = .ok (.iconst (-1), 1) := by decide +kernel
theorem dX2_unlikeSeasonPlace_45 : decode cX2_unlikeSeasonPlace 45 = .ok (.ireturn, 1) := by decide +kernel
theorem dX2_wordAgainPlace_0 : decode cX2_wordAgainPlace 0 = .ok (.lconst 0, 1) := by decide +kernel
theorem dX2_wordAgainPlace_1 : decode cX2_wordAgainPlace 1 = .ok (.lstore_n 3, 1) := by decide +kernel
theorem dX2_wordAgainPlace_2 : decode cX2_wordAgainPlace 2 = .ok (.iload_n 2, 1) := by decide +kernel
theorem dX2_wordAgainPlace_3 : decode cX2_wordAgainPlace 3 = .ok (.aload_n 0, 1) := by decide +kernel
theorem dX2_wordAgainPlace_4 : decode cX2_wordAgainPlace 4 = .ok (.getfield 15, 3) := by decide +kernel
theorem dX2_wordAgainPlace_7 : decode cX2_wordAgainPlace 7 = .ok (.getfield 83, 3) := by decide +kernel
theorem dX2_wordAgainPlace_10 : decode cX2_wordAgainPlace 10 = .ok (.isub, 1) := by decide +kernel
theorem dX2_wordAgainPlace_11 : decode cX2_wordAgainPlace 11 = .ok (.istore 5, 2) := by decide +kernel
theorem dX2_wordAgainPlace_13 : decode cX2_wordAgainPlace 13 = .ok (.iload 5, 2) := by decide +kernel
theorem dX2_wordAgainPlace_15 : decode cX2_wordAgainPlace 15 = .ok (.iload_n 2, 1) := by decide +kernel
theorem dX2_wordAgainPlace_16 : decode cX2_wordAgainPlace 16 = .ok (.if_icmp .ge 21, 3) := by decide +kernel
theorem dX2_wordAgainPlace_19 : decode cX2_wordAgainPlace 19 = .ok (.lload_n 3, 1) := by decide +kernel
theorem dX2_wordAgainPlace_20 : decode cX2_wordAgainPlace 20 = .ok (.aload_n 0, 1) := by decide +kernel
theorem dX2_wordAgainPlace_21 : decode cX2_wordAgainPlace 21 = .ok (.getfield 15, 3) := by decide +kernel
theorem dX2_wordAgainPlace_24 : decode cX2_wordAgainPlace 24 = .ok (.iload 5, 2) := by decide +kernel
theorem dX2_wordAgainPlace_26 : decode cX2_wordAgainPlace 26 = .ok (.invokevirtual 86, 3) := by decide +kernel
theorem dX2_wordAgainPlace_29 : decode cX2_wordAgainPlace 29 = .ok (.lor, 1) := by decide +kernel
theorem dX2_wordAgainPlace_30 : decode cX2_wordAgainPlace 30 = .ok (.lstore_n 3, 1) := by decide +kernel
theorem dX2_wordAgainPlace_31 : decode cX2_wordAgainPlace 31 = .ok (.iinc 5 1, 3) := by decide +kernel
theorem dX2_wordAgainPlace_34 : decode cX2_wordAgainPlace 34 = .ok (.goto (-21), 3) := by decide +kernel
theorem dX2_wordAgainPlace_37 : decode cX2_wordAgainPlace 37 = .ok (.iconst 0, 1) := by decide +kernel
theorem dX2_wordAgainPlace_38 : decode cX2_wordAgainPlace 38 = .ok (.istore 5, 2) := by decide +kernel
theorem dX2_wordAgainPlace_40 : decode cX2_wordAgainPlace 40 = .ok (.iload 5, 2) := by decide +kernel
theorem dX2_wordAgainPlace_42 : decode cX2_wordAgainPlace 42 = .ok (.aload_n 1, 1) := by decide +kernel
theorem dX2_wordAgainPlace_43 : decode cX2_wordAgainPlace 43 = .ok (.getfield 72, 3) := by decide +kernel
theorem dX2_wordAgainPlace_46 : decode cX2_wordAgainPlace 46 = .ok (.if_icmp .ge 36, 3) := by decide +kernel
theorem dX2_wordAgainPlace_49 : decode cX2_wordAgainPlace 49 = .ok (.lconst 1, 1) := by decide +kernel
theorem dX2_wordAgainPlace_50 : decode cX2_wordAgainPlace 50 = .ok (.aload_n 1, 1) := by decide +kernel
theorem dX2_wordAgainPlace_51 : decode cX2_wordAgainPlace 51 = .ok (.iload 5, 2) := by decide +kernel
theorem dX2_wordAgainPlace_53 : decode cX2_wordAgainPlace 53 = .ok (.invokevirtual 75, 3) := by decide +kernel
theorem dX2_wordAgainPlace_56 : decode cX2_wordAgainPlace 56 = .ok (.lshl, 1) := by decide +kernel
theorem dX2_wordAgainPlace_57 : decode cX2_wordAgainPlace 57 = .ok (.lstore 6, 2) := by decide +kernel
theorem dX2_wordAgainPlace_59 : decode cX2_wordAgainPlace 59 = .ok (.lload_n 3, 1) := by decide +kernel
theorem dX2_wordAgainPlace_60 : decode cX2_wordAgainPlace 60 = .ok (.lload 6, 2) := by decide +kernel
theorem dX2_wordAgainPlace_62 : decode cX2_wordAgainPlace 62 = .ok (.land, 1) := by decide +kernel
theorem dX2_wordAgainPlace_63 : decode cX2_wordAgainPlace 63 = .ok (.lconst 0, 1) := by decide +kernel
theorem dX2_wordAgainPlace_64 : decode cX2_wordAgainPlace 64 = .ok (.lcmp, 1) := by decide +kernel
theorem dX2_wordAgainPlace_65 : decode cX2_wordAgainPlace 65 = .ok (.ifCond .eq 6, 3) := by decide +kernel
theorem dX2_wordAgainPlace_68 : decode cX2_wordAgainPlace 68 = .ok (.iload 5, 2) := by decide +kernel
theorem dX2_wordAgainPlace_70 : decode cX2_wordAgainPlace 70 = .ok (.ireturn, 1) := by decide +kernel
theorem dX2_wordAgainPlace_71 : decode cX2_wordAgainPlace 71 = .ok (.lload_n 3, 1) := by decide +kernel
theorem dX2_wordAgainPlace_72 : decode cX2_wordAgainPlace 72 = .ok (.lload 6, 2) := by decide +kernel
theorem dX2_wordAgainPlace_74 : decode cX2_wordAgainPlace 74 = .ok (.lor, 1) := by decide +kernel
theorem dX2_wordAgainPlace_75 : decode cX2_wordAgainPlace 75 = .ok (.lstore_n 3, 1) := by decide +kernel
theorem dX2_wordAgainPlace_76 : decode cX2_wordAgainPlace 76 = .ok (.iinc 5 1, 3) := by decide +kernel
theorem dX2_wordAgainPlace_79 : decode cX2_wordAgainPlace 79 = .ok (.goto (-39), 3) := by decide +kernel
theorem dX2_wordAgainPlace_82 : decode cX2_wordAgainPlace 82 = .ok (.iconst (-1), 1) := by decide +kernel
theorem dX2_wordAgainPlace_83 : decode cX2_wordAgainPlace 83 = .ok (.ireturn, 1) := by decide +kernel
theorem dX2_joins_0 : decode cX2_joins 0 = .ok (.aload_n 1, 1) := by decide +kernel
theorem dX2_joins_1 : decode cX2_joins 1 = .ok (.getfield 50, 3) := by decide +kernel
theorem dX2_joins_4 : decode cX2_joins 4 = .ok (.aload_n 0, 1) := by decide +kernel
theorem dX2_joins_5 : decode cX2_joins 5 = .ok (.getfield 15, 3) := by decide +kernel
theorem dX2_joins_8 : decode cX2_joins 8 = .ok (.iload_n 2, 1) := by decide +kernel
theorem dX2_joins_9 : decode cX2_joins 9 = .ok (.invokevirtual 53, 3) := by decide +kernel
theorem dX2_joins_12 : decode cX2_joins 12 = .ok (.iand, 1) := by decide +kernel
theorem dX2_joins_13 : decode cX2_joins 13 = .ok (.sipush 255, 3) := by decide +kernel
theorem dX2_joins_16 : decode cX2_joins 16 = .ok (.iand, 1) := by decide +kernel
theorem dX2_joins_17 : decode cX2_joins 17 = .ok (.ifCond .eq 5, 3) := by decide +kernel
theorem dX2_joins_20 : decode cX2_joins 20 = .ok (.iconst 1, 1) := by decide +kernel
theorem dX2_joins_21 : decode cX2_joins 21 = .ok (.ireturn, 1) := by decide +kernel
theorem dX2_joins_22 : decode cX2_joins 22 = .ok (.aload_n 0, 1) := by decide +kernel
theorem dX2_joins_23 : decode cX2_joins 23 = .ok (.getfield 15, 3) := by decide +kernel
theorem dX2_joins_26 : decode cX2_joins 26 = .ok (.iload_n 2, 1) := by decide +kernel
theorem dX2_joins_27 : decode cX2_joins 27 = .ok (.invokevirtual 86, 3) := by decide +kernel
theorem dX2_joins_30 : decode cX2_joins 30 = .ok (.lstore_n 3, 1) := by decide +kernel
theorem dX2_joins_31 : decode cX2_joins 31 = .ok (.iconst 0, 1) := by decide +kernel
theorem dX2_joins_32 : decode cX2_joins 32 = .ok (.istore 5, 2) := by decide +kernel
theorem dX2_joins_34 : decode cX2_joins 34 = .ok (.iload 5, 2) := by decide +kernel
theorem dX2_joins_36 : decode cX2_joins 36 = .ok (.aload_n 1, 1) := by decide +kernel
theorem dX2_joins_37 : decode cX2_joins 37 = .ok (.getfield 72, 3) := by decide +kernel
theorem dX2_joins_40 : decode cX2_joins 40 = .ok (.if_icmp .ge 31, 3) := by decide +kernel
theorem dX2_joins_43 : decode cX2_joins 43 = .ok (.aload_n 0, 1) := by decide +kernel
theorem dX2_joins_44 : decode cX2_joins 44 = .ok (.getfield 9, 3) := by decide +kernel
theorem dX2_joins_47 : decode cX2_joins 47 = .ok (.aload_n 1, 1) := by decide +kernel
theorem dX2_joins_48 : decode cX2_joins 48 = .ok (.iload 5, 2) := by decide +kernel
theorem dX2_joins_50 : decode cX2_joins 50 = .ok (.invokevirtual 75, 3) := by decide +kernel
theorem dX2_joins_53 : decode cX2_joins 53 = .ok (.invokevirtual 90, 3) := by decide +kernel
theorem dX2_joins_56 : decode cX2_joins 56 = .ok (.lload_n 3, 1) := by decide +kernel
theorem dX2_joins_57 : decode cX2_joins 57 = .ok (.land, 1) := by decide +kernel
theorem dX2_joins_58 : decode cX2_joins 58 = .ok (.lconst 0, 1) := by decide +kernel
theorem dX2_joins_59 : decode cX2_joins 59 = .ok (.lcmp, 1) := by decide +kernel
theorem dX2_joins_60 : decode cX2_joins 60 = .ok (.ifCond .eq 5, 3) := by decide +kernel
theorem dX2_joins_63 : decode cX2_joins 63 = .ok (.iconst 1, 1) := by decide +kernel
theorem dX2_joins_64 : decode cX2_joins 64 = .ok (.ireturn, 1) := by decide +kernel
theorem dX2_joins_65 : decode cX2_joins 65 = .ok (.iinc 5 1, 3) := by decide +kernel
theorem dX2_joins_68 : decode cX2_joins 68 = .ok (.goto (-34), 3) := by decide +kernel
theorem dX2_joins_71 : decode cX2_joins 71 = .ok (.iconst 0, 1) := by decide +kernel
theorem dX2_joins_72 : decode cX2_joins 72 = .ok (.ireturn, 1) := by decide +kernel
theorem dX2_lowestSubject_0 : decode cX2_lowestSubject 0 = .ok (.iconst 0, 1) := by decide +kernel
theorem dX2_lowestSubject_1 : decode cX2_lowestSubject 1 = .ok (.istore_n 2, 1) := by decide +kernel
theorem dX2_lowestSubject_2 : decode cX2_lowestSubject 2 = .ok (.iload_n 2, 1) := by decide +kernel
theorem dX2_lowestSubject_3 : decode cX2_lowestSubject 3 = .ok (.bipush 8, 2) := by decide +kernel
theorem dX2_lowestSubject_5 : decode cX2_lowestSubject 5 = .ok (.if_icmp .ge 19, 3) := by decide +kernel
theorem dX2_lowestSubject_8 : decode cX2_lowestSubject 8 = .ok (.iload_n 1, 1) := by decide +kernel
theorem dX2_lowestSubject_9 : decode cX2_lowestSubject 9 = .ok (.iload_n 2, 1) := by decide +kernel
theorem dX2_lowestSubject_10 : decode cX2_lowestSubject 10 = .ok (.ishr, 1) := by decide +kernel
theorem dX2_lowestSubject_11 : decode cX2_lowestSubject 11 = .ok (.iconst 1, 1) := by decide +kernel
theorem dX2_lowestSubject_12 : decode cX2_lowestSubject 12 = .ok (.iand, 1) := by decide +kernel
theorem dX2_lowestSubject_13 : decode cX2_lowestSubject 13 = .ok (.ifCond .eq 5, 3) := by decide +kernel
theorem dX2_lowestSubject_16 : decode cX2_lowestSubject 16 = .ok (.iload_n 2, 1) := by decide +kernel
theorem dX2_lowestSubject_17 : decode cX2_lowestSubject 17 = .ok (.ireturn, 1) := by decide +kernel
theorem dX2_lowestSubject_18 : decode cX2_lowestSubject 18 = .ok (.iinc 2 1, 3) := by decide +kernel
theorem dX2_lowestSubject_21 : decode cX2_lowestSubject 21 = .ok (.goto (-19), 3) := by decide +kernel
theorem dX2_lowestSubject_24 : decode cX2_lowestSubject 24 = .ok (.iconst (-1), 1) := by decide +kernel
theorem dX2_lowestSubject_25 : decode cX2_lowestSubject 25 = .ok (.ireturn, 1) := by decide +kernel
theorem dX2_wrongSeason_0 : decode cX2_wrongSeason 0 = .ok (.aload_n 0, 1) := by decide +kernel
theorem dX2_wrongSeason_1 : decode cX2_wrongSeason 1 = .ok (.getfield 15, 3) := by decide +kernel
theorem dX2_wrongSeason_4 : decode cX2_wrongSeason 4 = .ok (.iload_n 2, 1) := by decide +kernel
theorem dX2_wrongSeason_5 : decode cX2_wrongSeason 5 = .ok (.iconst 1, 1) := by decide +kernel
theorem dX2_wrongSeason_6 : decode cX2_wrongSeason 6 = .ok (.isub, 1) := by decide +kernel
theorem dX2_wrongSeason_7 : decode cX2_wrongSeason 7 = .ok (.invokevirtual 93, 3) := by decide +kernel
theorem dX2_wrongSeason_10 : decode cX2_wrongSeason 10 = .ok (.istore_n 3, 1) := by decide +kernel
theorem dX2_wrongSeason_11 : decode cX2_wrongSeason 11 = .ok (.aload_n 0, 1) := by decide +kernel
theorem dX2_wrongSeason_12 : decode cX2_wrongSeason 12 = .ok (.getfield 15, 3) := by decide +kernel
theorem dX2_wrongSeason_15 : decode cX2_wrongSeason 15 = .ok (.iload_n 2, 1) := by decide +kernel
theorem dX2_wrongSeason_16 : decode cX2_wrongSeason 16 = .ok (.iconst 1, 1) := by decide +kernel
theorem dX2_wrongSeason_17 : decode cX2_wrongSeason 17 = .ok (.isub, 1) := by decide +kernel
theorem dX2_wrongSeason_18 : decode cX2_wrongSeason 18 = .ok (.invokevirtual 96, 3) := by decide +kernel
theorem dX2_wrongSeason_21 : decode cX2_wrongSeason 21 = .ok (.istore 4, 2) := by decide +kernel
theorem dX2_wrongSeason_23 : decode cX2_wrongSeason 23 = .ok (.iload_n 3, 1) := by decide +kernel
theorem dX2_wrongSeason_24 : decode cX2_wrongSeason 24 = .ok (.iconst (-1), 1) := by decide +kernel
theorem dX2_wrongSeason_25 : decode cX2_wrongSeason 25 = .ok (.if_icmp .eq 20, 3) := by decide +kernel
theorem dX2_wrongSeason_28 : decode cX2_wrongSeason 28 = .ok (.iload_n 1, 1) := by decide +kernel
theorem dX2_wrongSeason_29 : decode cX2_wrongSeason 29 = .ok (.iload_n 3, 1) := by decide +kernel
theorem dX2_wrongSeason_30 : decode cX2_wrongSeason 30 = .ok (.if_icmp .eq 15, 3) := by decide +kernel
theorem dX2_wrongSeason_33 : decode cX2_wrongSeason 33 = .ok (.iload 4, 2) := by decide +kernel
theorem dX2_wrongSeason_35 : decode cX2_wrongSeason 35 = .ok (.aload_n 0, 1) := by decide +kernel
theorem dX2_wrongSeason_36 : decode cX2_wrongSeason 36 = .ok (.iload_n 3, 1) := by decide +kernel
theorem dX2_wrongSeason_37 : decode cX2_wrongSeason 37 = .ok (.invokevirtual 99, 3) := by decide +kernel
theorem dX2_wrongSeason_40 : decode cX2_wrongSeason 40 = .ok (.if_icmp .ge 5, 3) := by decide +kernel
theorem dX2_wrongSeason_43 : decode cX2_wrongSeason 43 = .ok (.iload_n 3, 1) := by decide +kernel
theorem dX2_wrongSeason_44 : decode cX2_wrongSeason 44 = .ok (.ireturn, 1) := by decide +kernel
theorem dX2_wrongSeason_45 : decode cX2_wrongSeason 45 = .ok (.iload_n 3, 1) := by decide +kernel
theorem dX2_wrongSeason_46 : decode cX2_wrongSeason 46 = .ok (.iconst (-1), 1) := by decide +kernel
theorem dX2_wrongSeason_47 : decode cX2_wrongSeason 47 = .ok (.if_icmp .eq 20, 3) := by decide +kernel
theorem dX2_wrongSeason_50 : decode cX2_wrongSeason 50 = .ok (.iload_n 1, 1) := by decide +kernel
theorem dX2_wrongSeason_51 : decode cX2_wrongSeason 51 = .ok (.iload_n 3, 1) := by decide +kernel
theorem dX2_wrongSeason_52 : decode cX2_wrongSeason 52 = .ok (.if_icmp .ne 15, 3) := by decide +kernel
theorem dX2_wrongSeason_55 : decode cX2_wrongSeason 55 = .ok (.iload 4, 2) := by decide +kernel
theorem dX2_wrongSeason_57 : decode cX2_wrongSeason 57 = .ok (.aload_n 0, 1) := by decide +kernel
theorem dX2_wrongSeason_58 : decode cX2_wrongSeason 58 = .ok (.iload_n 3, 1) := by decide +kernel
theorem dX2_wrongSeason_59 : decode cX2_wrongSeason 59 = .ok (.invokevirtual 102, 3) := by decide +kernel
theorem dX2_wrongSeason_62 : decode cX2_wrongSeason 62 = .ok (.if_icmp .lt 5, 3) := by decide +kernel
theorem dX2_wrongSeason_65 : decode cX2_wrongSeason 65 = .ok (.iload_n 3, 1) := by decide +kernel
theorem dX2_wrongSeason_66 : decode cX2_wrongSeason 66 = .ok (.ireturn, 1) := by decide +kernel
theorem dX2_wrongSeason_67 : decode cX2_wrongSeason 67 = .ok (.iload_n 1, 1) := by decide +kernel
theorem dX2_wrongSeason_68 : decode cX2_wrongSeason 68 = .ok (.iconst (-1), 1) := by decide +kernel
theorem dX2_wrongSeason_69 : decode cX2_wrongSeason 69 = .ok (.if_icmp .eq 19, 3) := by decide +kernel
theorem dX2_wrongSeason_72 : decode cX2_wrongSeason 72 = .ok (.iload_n 1, 1) := by decide +kernel
theorem dX2_wrongSeason_73 : decode cX2_wrongSeason 73 = .ok (.iload_n 3, 1) := by decide +kernel
theorem dX2_wrongSeason_74 : decode cX2_wrongSeason 74 = .ok (.if_icmp .eq 14, 3) := by decide +kernel
theorem dX2_wrongSeason_77 : decode cX2_wrongSeason 77 = .ok (.aload_n 0, 1) := by decide +kernel
theorem dX2_wrongSeason_78 : decode cX2_wrongSeason 78 = .ok (.iload_n 1, 1) := by decide +kernel
theorem dX2_wrongSeason_79 : decode cX2_wrongSeason 79 = .ok (.iload_n 2, 1) := by decide +kernel
theorem dX2_wrongSeason_80 : decode cX2_wrongSeason 80 = .ok (.invokevirtual 105, 3) := by decide +kernel
theorem dX2_wrongSeason_83 : decode cX2_wrongSeason 83 = .ok (.ifCond .eq 5, 3) := by decide +kernel
theorem dX2_wrongSeason_86 : decode cX2_wrongSeason 86 = .ok (.iload_n 1, 1) := by decide +kernel
theorem dX2_wrongSeason_87 : decode cX2_wrongSeason 87 = .ok (.ireturn, 1) := by decide +kernel
theorem dX2_wrongSeason_88 : decode cX2_wrongSeason 88 = .ok (.iconst (-1), 1) := by decide +kernel
theorem dX2_wrongSeason_89 : decode cX2_wrongSeason 89 = .ok (.ireturn, 1) := by decide +kernel
theorem dX2_isLately_0 : decode cX2_isLately 0 = .ok (.iload_n 2, 1) := by decide +kernel
theorem dX2_isLately_1 : decode cX2_isLately 1 = .ok (.iconst 4, 1) := by decide +kernel
theorem dX2_isLately_2 : decode cX2_isLately 2 = .ok (.isub, 1) := by decide +kernel
theorem dX2_isLately_3 : decode cX2_isLately 3 = .ok (.istore_n 3, 1) := by decide +kernel
theorem dX2_isLately_4 : decode cX2_isLately 4 = .ok (.iload_n 3, 1) := by decide +kernel
theorem dX2_isLately_5 : decode cX2_isLately 5 = .ok (.iload_n 2, 1) := by decide +kernel
theorem dX2_isLately_6 : decode cX2_isLately 6 = .ok (.if_icmp .ge 23, 3) := by decide +kernel
theorem dX2_isLately_9 : decode cX2_isLately 9 = .ok (.aload_n 0, 1) := by decide +kernel
theorem dX2_isLately_10 : decode cX2_isLately 10 = .ok (.getfield 15, 3) := by decide +kernel
theorem dX2_isLately_13 : decode cX2_isLately 13 = .ok (.iload_n 3, 1) := by decide +kernel
theorem dX2_isLately_14 : decode cX2_isLately 14 = .ok (.invokevirtual 93, 3) := by decide +kernel
theorem dX2_isLately_17 : decode cX2_isLately 17 = .ok (.iload_n 1, 1) := by decide +kernel
theorem dX2_isLately_18 : decode cX2_isLately 18 = .ok (.if_icmp .ne 5, 3) := by decide +kernel
theorem dX2_isLately_21 : decode cX2_isLately 21 = .ok (.iconst 1, 1) := by decide +kernel
theorem dX2_isLately_22 : decode cX2_isLately 22 = .ok (.ireturn, 1) := by decide +kernel
theorem dX2_isLately_23 : decode cX2_isLately 23 = .ok (.iinc 3 1, 3) := by decide +kernel
theorem dX2_isLately_26 : decode cX2_isLately 26 = .ok (.goto (-22), 3) := by decide +kernel
theorem dX2_isLately_29 : decode cX2_isLately 29 = .ok (.iconst 0, 1) := by decide +kernel
theorem dX2_isLately_30 : decode cX2_isLately 30 = .ok (.ireturn, 1) := by decide +kernel
theorem dX2_isLong_0 : decode cX2_isLong 0 = .ok (.iload_n 1, 1) := by decide +kernel
theorem dX2_isLong_1 : decode cX2_isLong 1 = .ok (.ifCond .eq 8, 3) := by decide +kernel
theorem dX2_isLong_4 : decode cX2_isLong 4 = .ok (.iload_n 1, 1) := by decide +kernel
theorem dX2_isLong_5 : decode cX2_isLong 5 = .ok (.iconst 2, 1) := by decide +kernel
theorem dX2_isLong_6 : decode cX2_isLong 6 = .ok (.if_icmp .ne 7, 3) := by decide +kernel
theorem dX2_isLong_9 : decode cX2_isLong 9 = .ok (.iconst 1, 1) := by decide +kernel
theorem dX2_isLong_10 : decode cX2_isLong 10 = .ok (.goto 4, 3) := by decide +kernel
theorem dX2_isLong_13 : decode cX2_isLong 13 = .ok (.iconst 0, 1) := by decide +kernel
theorem dX2_isLong_14 : decode cX2_isLong 14 = .ok (.ireturn, 1) := by decide +kernel
theorem dX2_leastRun_0 : decode cX2_leastRun 0 = .ok (.aload_n 0, 1) := by decide +kernel
theorem dX2_leastRun_1 : decode cX2_leastRun 1 = .ok (.iload_n 1, 1) := by decide +kernel
theorem dX2_leastRun_2 : decode cX2_leastRun 2 = .ok (.invokevirtual 109, 3) := by decide +kernel
theorem dX2_leastRun_5 : decode cX2_leastRun 5 = .ok (.ifCond .eq 7, 3) := by decide +kernel
theorem dX2_leastRun_8 : decode cX2_leastRun 8 = .ok (.iconst 3, 1) := by decide +kernel
theorem dX2_leastRun_9 : decode cX2_leastRun 9 = .ok (.goto 4, 3) := by decide +kernel
theorem dX2_leastRun_12 : decode cX2_leastRun 12 = .ok (.iconst 1, 1) := by decide +kernel
theorem dX2_leastRun_13 : decode cX2_leastRun 13 = .ok (.ireturn, 1) := by decide +kernel
theorem dX2_mostRun_0 : decode cX2_mostRun 0 = .ok (.aload_n 0, 1) := by decide +kernel
theorem dX2_mostRun_1 : decode cX2_mostRun 1 = .ok (.iload_n 1, 1) := by decide +kernel
theorem dX2_mostRun_2 : decode cX2_mostRun 2 = .ok (.invokevirtual 109, 3) := by decide +kernel
theorem dX2_mostRun_5 : decode cX2_mostRun 5 = .ok (.ifCond .eq 7, 3) := by decide +kernel
theorem dX2_mostRun_8 : decode cX2_mostRun 8 = .ok (.iconst 5, 1) := by decide +kernel
theorem dX2_mostRun_9 : decode cX2_mostRun 9 = .ok (.goto 4, 3) := by decide +kernel
theorem dX2_mostRun_12 : decode cX2_mostRun 12 = .ok (.iconst 3, 1) := by decide +kernel
theorem dX2_mostRun_13 : decode cX2_mostRun 13 = .ok (.ireturn, 1) := by decide +kernel
theorem dX2_wrongSeat_0 : decode cX2_wrongSeat 0 = .ok (.iload_n 1, 1) := by decide +kernel
theorem dX2_wrongSeat_1 : decode cX2_wrongSeat 1 = .ok (.bipush 8, 2) := by decide +kernel
theorem dX2_wrongSeat_3 : decode cX2_wrongSeat 3 = .ok (.ishr, 1) := by decide +kernel
theorem dX2_wrongSeat_4 : decode cX2_wrongSeat 4 = .ok (.iconst 1, 1) := by decide +kernel
theorem dX2_wrongSeat_5 : decode cX2_wrongSeat 5 = .ok (.iand, 1) := by decide +kernel
theorem dX2_wrongSeat_6 : decode cX2_wrongSeat 6 = .ok (.ifCond .eq 7, 3) := by decide +kernel
theorem dX2_wrongSeat_9 : decode cX2_wrongSeat 9 = .ok (.iconst 1, 1) := by decide +kernel
theorem dX2_wrongSeat_10 : decode cX2_wrongSeat 10 = .ok (.goto 4, 3) := by decide +kernel
theorem dX2_wrongSeat_13 : decode cX2_wrongSeat 13 = .ok (.iconst 0, 1) := by decide +kernel
theorem dX2_wrongSeat_14 : decode cX2_wrongSeat 14 = .ok (.istore_n 3, 1) := by decide +kernel
theorem dX2_wrongSeat_15 : decode cX2_wrongSeat 15 = .ok (.iload_n 1, 1) := by decide +kernel
theorem dX2_wrongSeat_16 : decode cX2_wrongSeat 16 = .ok (.bipush 9, 2) := by decide +kernel
theorem dX2_wrongSeat_18 : decode cX2_wrongSeat 18 = .ok (.ishr, 1) := by decide +kernel
theorem dX2_wrongSeat_19 : decode cX2_wrongSeat 19 = .ok (.iconst 1, 1) := by decide +kernel
theorem dX2_wrongSeat_20 : decode cX2_wrongSeat 20 = .ok (.iand, 1) := by decide +kernel
theorem dX2_wrongSeat_21 : decode cX2_wrongSeat 21 = .ok (.ifCond .eq 7, 3) := by decide +kernel
theorem dX2_wrongSeat_24 : decode cX2_wrongSeat 24 = .ok (.iconst 1, 1) := by decide +kernel
theorem dX2_wrongSeat_25 : decode cX2_wrongSeat 25 = .ok (.goto 4, 3) := by decide +kernel
theorem dX2_wrongSeat_28 : decode cX2_wrongSeat 28 = .ok (.iconst 0, 1) := by decide +kernel
theorem dX2_wrongSeat_29 : decode cX2_wrongSeat 29 = .ok (.istore 4, 2) := by decide +kernel
theorem dX2_wrongSeat_31 : decode cX2_wrongSeat 31 = .ok (.iload_n 3, 1) := by decide +kernel
theorem dX2_wrongSeat_32 : decode cX2_wrongSeat 32 = .ok (.iload_n 2, 1) := by decide +kernel
theorem dX2_wrongSeat_33 : decode cX2_wrongSeat 33 = .ok (.iconst 1, 1) := by decide +kernel
theorem dX2_wrongSeat_34 : decode cX2_wrongSeat 34 = .ok (.if_icmp .ne 7, 3) := by decide +kernel
theorem dX2_wrongSeat_37 : decode cX2_wrongSeat 37 = .ok (.iconst 1, 1) := by decide +kernel
theorem dX2_wrongSeat_38 : decode cX2_wrongSeat 38 = .ok (.goto 4, 3) := by decide +kernel
theorem dX2_wrongSeat_41 : decode cX2_wrongSeat 41 = .ok (.iconst 0, 1) := by decide +kernel
theorem dX2_wrongSeat_42 : decode cX2_wrongSeat 42 = .ok (.if_icmp .eq 5, 3) := by decide +kernel
theorem dX2_wrongSeat_45 : decode cX2_wrongSeat 45 = .ok (.iconst 1, 1) := by decide +kernel
theorem dX2_wrongSeat_46 : decode cX2_wrongSeat 46 = .ok (.ireturn, 1) := by decide +kernel
theorem dX2_wrongSeat_47 : decode cX2_wrongSeat 47 = .ok (.iload 4, 2) := by decide +kernel
theorem dX2_wrongSeat_49 : decode cX2_wrongSeat 49 = .ok (.iload_n 2, 1) := by decide +kernel
theorem dX2_wrongSeat_50 : decode cX2_wrongSeat 50 = .ok (.iconst 2, 1) := by decide +kernel
theorem dX2_wrongSeat_51 : decode cX2_wrongSeat 51 = .ok (.if_icmp .ne 7, 3) := by decide +kernel
theorem dX2_wrongSeat_54 : decode cX2_wrongSeat 54 = .ok (.iconst 1, 1) := by decide +kernel
theorem dX2_wrongSeat_55 : decode cX2_wrongSeat 55 = .ok (.goto 4, 3) := by decide +kernel
theorem dX2_wrongSeat_58 : decode cX2_wrongSeat 58 = .ok (.iconst 0, 1) := by decide +kernel
theorem dX2_wrongSeat_59 : decode cX2_wrongSeat 59 = .ok (.if_icmp .eq 7, 3) := by decide +kernel
theorem dX2_wrongSeat_62 : decode cX2_wrongSeat 62 = .ok (.iconst 2, 1) := by decide +kernel
theorem dX2_wrongSeat_63 : decode cX2_wrongSeat 63 = .ok (.goto 4, 3) := by decide +kernel
theorem dX2_wrongSeat_66 : decode cX2_wrongSeat 66 = .ok (.iconst (-1), 1) := by decide +kernel
theorem dX2_wrongSeat_67 : decode cX2_wrongSeat 67 = .ok (.ireturn, 1) := by decide +kernel
theorem dX3_init_0 : decode cX3_init 0 = .ok (.aload_n 0, 1) := by decide +kernel
theorem dX3_init_1 : decode cX3_init 1 = .ok (.invokespecial 3, 3) := by decide +kernel
theorem dX3_init_4 : decode cX3_init 4 = .ok (.aload_n 0, 1) := by decide +kernel
theorem dX3_init_5 : decode cX3_init 5 = .ok (.bipush 36, 2) := by decide +kernel
theorem dX3_init_7 : decode cX3_init 7 = .ok (.bipush 6, 2) := by decide +kernel
theorem dX3_init_9 : decode cX3_init 9 = .ok (.multianewarray 9 2, 4) := by decide +kernel
theorem dX3_init_13 : decode cX3_init 13 = .ok (.putfield 11, 3) := by decide +kernel
theorem dX3_init_16 : decode cX3_init 16 = .ok (.return_, 1) := by decide +kernel
theorem dX3_put_0 : decode cX3_put 0 = .ok (.aload_n 0, 1) := by decide +kernel
theorem dX3_put_1 : decode cX3_put 1 = .ok (.iload_n 1, 1) := by decide +kernel
theorem dX3_put_2 : decode cX3_put 2 = .ok (.iload_n 2, 1) := by decide +kernel
theorem dX3_put_3 : decode cX3_put 3 = .ok (.invokevirtual 16, 3) := by decide +kernel
theorem dX3_put_6 : decode cX3_put 6 = .ok (.ifCond .eq 12, 3) := by decide +kernel
theorem dX3_put_9 : decode cX3_put 9 = .ok (.aload_n 0, 1) := by decide +kernel
theorem dX3_put_10 : decode cX3_put 10 = .ok (.getfield 11, 3) := by decide +kernel
theorem dX3_put_13 : decode cX3_put 13 = .ok (.iload_n 1, 1) := by decide +kernel
theorem dX3_put_14 : decode cX3_put 14 = .ok (.aaload, 1) := by decide +kernel
theorem dX3_put_15 : decode cX3_put 15 = .ok (.iload_n 2, 1) := by decide +kernel
theorem dX3_put_16 : decode cX3_put 16 = .ok (.iload_n 3, 1) := by decide +kernel
theorem dX3_put_17 : decode cX3_put 17 = .ok (.iastore, 1) := by decide +kernel
theorem dX3_put_18 : decode cX3_put 18 = .ok (.return_, 1) := by decide +kernel
theorem dX3_wordOrNone_0 : decode cX3_wordOrNone 0 = .ok (.aload_n 0, 1) := by decide +kernel
theorem dX3_wordOrNone_1 : decode cX3_wordOrNone 1 = .ok (.iload_n 1, 1) := by decide +kernel
theorem dX3_wordOrNone_2 : decode cX3_wordOrNone 2 = .ok (.iload_n 2, 1) := by decide +kernel
theorem dX3_wordOrNone_3 : decode cX3_wordOrNone 3 = .ok (.invokevirtual 16, 3) := by decide +kernel
theorem dX3_wordOrNone_6 : decode cX3_wordOrNone 6 = .ok (.ifCond .eq 14, 3) := by decide +kernel
theorem dX3_wordOrNone_9 : decode cX3_wordOrNone 9 = .ok (.aload_n 0, 1) := by decide +kernel
theorem dX3_wordOrNone_10 : decode cX3_wordOrNone 10 = .ok (.getfield 11, 3) := by decide +kernel
theorem dX3_wordOrNone_13 : decode cX3_wordOrNone 13 = .ok (.iload_n 1, 1) := by decide +kernel
theorem dX3_wordOrNone_14 : decode cX3_wordOrNone 14 = .ok (.aaload, 1) := by decide +kernel
theorem dX3_wordOrNone_15 : decode cX3_wordOrNone 15 = .ok (.iload_n 2, 1) := by decide +kernel
theorem dX3_wordOrNone_16 : decode cX3_wordOrNone 16 = .ok (.iaload, 1) := by decide +kernel
theorem dX3_wordOrNone_17 : decode cX3_wordOrNone 17 = .ok (.goto 4, 3) := by decide +kernel
theorem dX3_wordOrNone_20 : decode cX3_wordOrNone 20 = .ok (.iconst (-1), 1) := by decide +kernel
theorem dX3_wordOrNone_21 : decode cX3_wordOrNone 21 = .ok (.ireturn, 1) := by decide +kernel
theorem dX3_isOnSheet_0 : decode cX3_isOnSheet 0 = .ok (.iload_n 1, 1) := by decide +kernel
theorem dX3_isOnSheet_1 : decode cX3_isOnSheet 1 = .ok (.ifCond .lt 23, 3) := by decide +kernel
theorem dX3_isOnSheet_4 : decode cX3_isOnSheet 4 = .ok (.iload_n 1, 1) := by decide +kernel
theorem dX3_isOnSheet_5 : decode cX3_isOnSheet 5 = .ok (.bipush 36, 2) := by decide +kernel
theorem dX3_isOnSheet_7 : decode cX3_isOnSheet 7 = .ok (.if_icmp .ge 17, 3) := by decide +kernel
theorem dX3_isOnSheet_10 : decode cX3_isOnSheet 10 = .ok (.iload_n 2, 1) := by decide +kernel
theorem dX3_isOnSheet_11 : decode cX3_isOnSheet 11 = .ok (.ifCond .lt 13, 3) := by decide +kernel
theorem dX3_isOnSheet_14 : decode cX3_isOnSheet 14 = .ok (.iload_n 2, 1) := by decide +kernel
theorem dX3_isOnSheet_15 : decode cX3_isOnSheet 15 = .ok (.bipush 6, 2) := by decide +kernel
theorem dX3_isOnSheet_17 : decode cX3_isOnSheet 17 = .ok (.if_icmp .ge 7, 3) := by decide +kernel
theorem dX3_isOnSheet_20 : decode cX3_isOnSheet 20 = .ok (.iconst 1, 1) := by decide +kernel
theorem dX3_isOnSheet_21 : decode cX3_isOnSheet 21 = .ok (.goto 4, 3) := by decide +kernel
theorem dX3_isOnSheet_24 : decode cX3_isOnSheet 24 = .ok (.iconst 0, 1) := by decide +kernel
theorem dX3_isOnSheet_25 : decode cX3_isOnSheet 25 = .ok (.ireturn, 1) := by decide +kernel
theorem dX4_init_0 : decode cX4_init 0 = .ok (.aload_n 0, 1) := by decide +kernel
theorem dX4_init_1 : decode cX4_init 1 = .ok (.invokespecial 3, 3) := by decide +kernel
theorem dX4_init_4 : decode cX4_init 4 = .ok (.aload_n 0, 1) := by decide +kernel
theorem dX4_init_5 : decode cX4_init 5 = .ok (.bipush 40, 2) := by decide +kernel
theorem dX4_init_7 : decode cX4_init 7 = .ok (.newarray .int, 2) := by decide +kernel
theorem dX4_init_9 : decode cX4_init 9 = .ok (.putfield 9, 3) := by decide +kernel
theorem dX4_init_12 : decode cX4_init 12 = .ok (.aload_n 0, 1) := by decide +kernel
theorem dX4_init_13 : decode cX4_init 13 = .ok (.bipush 40, 2) := by decide +kernel
theorem dX4_init_15 : decode cX4_init 15 = .ok (.newarray .int, 2) := by decide +kernel
theorem dX4_init_17 : decode cX4_init 17 = .ok (.putfield 15, 3) := by decide +kernel
theorem dX4_init_20 : decode cX4_init 20 = .ok (.aload_n 0, 1) := by decide +kernel
theorem dX4_init_21 : decode cX4_init 21 = .ok (.bipush 40, 2) := by decide +kernel
theorem dX4_init_23 : decode cX4_init 23 = .ok (.newarray .int, 2) := by decide +kernel
theorem dX4_init_25 : decode cX4_init 25 = .ok (.putfield 18, 3) := by decide +kernel
theorem dX4_init_28 : decode cX4_init 28 = .ok (.aload_n 0, 1) := by decide +kernel
theorem dX4_init_29 : decode cX4_init 29 = .ok (.bipush 40, 2) := by decide +kernel
theorem dX4_init_31 : decode cX4_init 31 = .ok (.newarray .long, 2) := by decide +kernel
theorem dX4_init_33 : decode cX4_init 33 = .ok (.putfield 21, 3) := by decide +kernel
theorem dX4_init_36 : decode cX4_init 36 = .ok (.return_, 1) := by decide +kernel
theorem dX4_has_0 : decode cX4_has 0 = .ok (.iload_n 1, 1) := by decide +kernel
theorem dX4_has_1 : decode cX4_has 1 = .ok (.ifCond .lt 15, 3) := by decide +kernel
theorem dX4_has_4 : decode cX4_has 4 = .ok (.iload_n 1, 1) := by decide +kernel
theorem dX4_has_5 : decode cX4_has 5 = .ok (.aload_n 0, 1) := by decide +kernel
theorem dX4_has_6 : decode cX4_has 6 = .ok (.getfield 25, 3) := by decide +kernel
theorem dX4_has_9 : decode cX4_has 9 = .ok (.if_icmp .ge 7, 3) := by decide +kernel
theorem dX4_has_12 : decode cX4_has 12 = .ok (.iconst 1, 1) := by decide +kernel
theorem dX4_has_13 : decode cX4_has 13 = .ok (.goto 4, 3) := by decide +kernel
theorem dX4_has_16 : decode cX4_has 16 = .ok (.iconst 0, 1) := by decide +kernel
theorem dX4_has_17 : decode cX4_has 17 = .ok (.ireturn, 1) := by decide +kernel
theorem dX4_isFull_0 : decode cX4_isFull 0 = .ok (.aload_n 0, 1) := by decide +kernel
theorem dX4_isFull_1 : decode cX4_isFull 1 = .ok (.getfield 25, 3) := by decide +kernel
theorem dX4_isFull_4 : decode cX4_isFull 4 = .ok (.bipush 40, 2) := by decide +kernel
theorem dX4_isFull_6 : decode cX4_isFull 6 = .ok (.if_icmp .lt 7, 3) := by decide +kernel
theorem dX4_isFull_9 : decode cX4_isFull 9 = .ok (.iconst 1, 1) := by decide +kernel
theorem dX4_isFull_10 : decode cX4_isFull 10 = .ok (.goto 4, 3) := by decide +kernel
theorem dX4_isFull_13 : decode cX4_isFull 13 = .ok (.iconst 0, 1) := by decide +kernel
theorem dX4_isFull_14 : decode cX4_isFull 14 = .ok (.ireturn, 1) := by decide +kernel
theorem dX4_put_0 : decode cX4_put 0 = .ok (.aload_n 0, 1) := by decide +kernel
theorem dX4_put_1 : decode cX4_put 1 = .ok (.invokevirtual 29, 3) := by decide +kernel
theorem dX4_put_4 : decode cX4_put 4 = .ok (.ifCond .eq 5, 3) := by decide +kernel
theorem dX4_put_7 : decode cX4_put 7 = .ok (.iconst (-1), 1) := by decide +kernel
theorem dX4_put_8 : decode cX4_put 8 = .ok (.ireturn, 1) := by decide +kernel
theorem dX4_put_9 : decode cX4_put 9 = .ok (.aload_n 0, 1) := by decide +kernel
theorem dX4_put_10 : decode cX4_put 10 = .ok (.getfield 9, 3) := by decide +kernel
theorem dX4_put_13 : decode cX4_put 13 = .ok (.aload_n 0, 1) := by decide +kernel
theorem dX4_put_14 : decode cX4_put 14 = .ok (.getfield 25, 3) := by decide +kernel
theorem dX4_put_17 : decode cX4_put 17 = .ok (.iload_n 1, 1) := by decide +kernel
theorem dX4_put_18 : decode cX4_put 18 = .ok (.iastore, 1) := by decide +kernel
theorem dX4_put_19 : decode cX4_put 19 = .ok (.aload_n 0, 1) := by decide +kernel
theorem dX4_put_20 : decode cX4_put 20 = .ok (.getfield 15, 3) := by decide +kernel
theorem dX4_put_23 : decode cX4_put 23 = .ok (.aload_n 0, 1) := by decide +kernel
theorem dX4_put_24 : decode cX4_put 24 = .ok (.getfield 25, 3) := by decide +kernel
theorem dX4_put_27 : decode cX4_put 27 = .ok (.iload_n 2, 1) := by decide +kernel
theorem dX4_put_28 : decode cX4_put 28 = .ok (.iastore, 1) := by decide +kernel
theorem dX4_put_29 : decode cX4_put 29 = .ok (.aload_n 0, 1) := by decide +kernel
theorem dX4_put_30 : decode cX4_put 30 = .ok (.getfield 18, 3) := by decide +kernel
theorem dX4_put_33 : decode cX4_put 33 = .ok (.aload_n 0, 1) := by decide +kernel
theorem dX4_put_34 : decode cX4_put 34 = .ok (.getfield 25, 3) := by decide +kernel
theorem dX4_put_37 : decode cX4_put 37 = .ok (.iload_n 3, 1) := by decide +kernel
theorem dX4_put_38 : decode cX4_put 38 = .ok (.iastore, 1) := by decide +kernel
theorem dX4_put_39 : decode cX4_put 39 = .ok (.aload_n 0, 1) := by decide +kernel
theorem dX4_put_40 : decode cX4_put 40 = .ok (.dup, 1) := by decide +kernel
theorem dX4_put_41 : decode cX4_put 41 = .ok (.getfield 25, 3) := by decide +kernel
theorem dX4_put_44 : decode cX4_put 44 = .ok (.iconst 1, 1) := by decide +kernel
theorem dX4_put_45 : decode cX4_put 45 = .ok (.iadd, 1) := by decide +kernel
theorem dX4_put_46 : decode cX4_put 46 = .ok (.putfield 25, 3) := by decide +kernel
theorem dX4_put_49 : decode cX4_put 49 = .ok (.aload_n 0, 1) := by decide +kernel
theorem dX4_put_50 : decode cX4_put 50 = .ok (.getfield 25, 3) := by decide +kernel
theorem dX4_put_53 : decode cX4_put 53 = .ok (.iconst 1, 1) := by decide +kernel
theorem dX4_put_54 : decode cX4_put 54 = .ok (.isub, 1) := by decide +kernel
theorem dX4_put_55 : decode cX4_put 55 = .ok (.ireturn, 1) := by decide +kernel
theorem dX4_bind_0 : decode cX4_bind 0 = .ok (.aload_n 0, 1) := by decide +kernel
theorem dX4_bind_1 : decode cX4_bind 1 = .ok (.iload_n 1, 1) := by decide +kernel
theorem dX4_bind_2 : decode cX4_bind 2 = .ok (.invokevirtual 33, 3) := by decide +kernel
theorem dX4_bind_5 : decode cX4_bind 5 = .ok (.ifCond .eq 11, 3) := by decide +kernel
theorem dX4_bind_8 : decode cX4_bind 8 = .ok (.aload_n 0, 1) := by decide +kernel
theorem dX4_bind_9 : decode cX4_bind 9 = .ok (.iload_n 2, 1) := by decide +kernel
theorem dX4_bind_10 : decode cX4_bind 10 = .ok (.invokevirtual 33, 3) := by decide +kernel
theorem dX4_bind_13 : decode cX4_bind 13 = .ok (.ifCond .ne 5, 3) := by decide +kernel
theorem dX4_bind_16 : decode cX4_bind 16 = .ok (.iconst 0, 1) := by decide +kernel
theorem dX4_bind_17 : decode cX4_bind 17 = .ok (.ireturn, 1) := by decide +kernel
theorem dX4_bind_18 : decode cX4_bind 18 = .ok (.aload_n 0, 1) := by decide +kernel
theorem dX4_bind_19 : decode cX4_bind 19 = .ok (.getfield 21, 3) := by decide +kernel
theorem dX4_bind_22 : decode cX4_bind 22 = .ok (.iload_n 1, 1) := by decide +kernel
theorem dX4_bind_23 : decode cX4_bind 23 = .ok (.laload, 1) := by decide +kernel
theorem dX4_bind_24 : decode cX4_bind 24 = .ok (.iload_n 2, 1) := by decide +kernel
theorem dX4_bind_25 : decode cX4_bind 25 = .ok (.lshr, 1) := by decide +kernel
theorem dX4_bind_26 : decode cX4_bind 26 = .ok (.lconst 1, 1) := by decide +kernel
theorem dX4_bind_27 : decode cX4_bind 27 = .ok (.land, 1) := by decide +kernel
theorem dX4_bind_28 : decode cX4_bind 28 = .ok (.lconst 0, 1) := by decide +kernel
theorem dX4_bind_29 : decode cX4_bind 29 = .ok (.lcmp, 1) := by decide +kernel
theorem dX4_bind_30 : decode cX4_bind 30 = .ok (.ifCond .eq 7, 3) := by decide +kernel
theorem dX4_bind_33 : decode cX4_bind 33 = .ok (.iconst 1, 1) := by decide +kernel
theorem dX4_bind_34 : decode cX4_bind 34 = .ok (.goto 4, 3) := by decide +kernel
theorem dX4_bind_37 : decode cX4_bind 37 = .ok (.iconst 0, 1) := by decide +kernel
theorem dX4_bind_38 : decode cX4_bind 38 = .ok (.istore_n 3, 1) := by decide +kernel
theorem dX4_bind_39 : decode cX4_bind 39 = .ok (.aload_n 0, 1) := by decide +kernel
theorem dX4_bind_40 : decode cX4_bind 40 = .ok (.getfield 21, 3) := by decide +kernel
theorem dX4_bind_43 : decode cX4_bind 43 = .ok (.iload_n 1, 1) := by decide +kernel
theorem dX4_bind_44 : decode cX4_bind 44 = .ok (.dup2, 1) := by decide +kernel
theorem dX4_bind_45 : decode cX4_bind 45 = .ok (.laload, 1) := by decide +kernel
theorem dX4_bind_46 : decode cX4_bind 46 = .ok (.lconst 1, 1) := by decide +kernel
theorem dX4_bind_47 : decode cX4_bind 47 = .ok (.iload_n 2, 1) := by decide +kernel
theorem dX4_bind_48 : decode cX4_bind 48 = .ok (.lshl, 1) := by decide +kernel
theorem dX4_bind_49 : decode cX4_bind 49 = .ok (.lor, 1) := by decide +kernel
theorem dX4_bind_50 : decode cX4_bind 50 = .ok (.lastore, 1) := by decide +kernel
theorem dX4_bind_51 : decode cX4_bind 51 = .ok (.aload_n 0, 1) := by decide +kernel
theorem dX4_bind_52 : decode cX4_bind 52 = .ok (.getfield 21, 3) := by decide +kernel
theorem dX4_bind_55 : decode cX4_bind 55 = .ok (.iload_n 2, 1) := by decide +kernel
theorem dX4_bind_56 : decode cX4_bind 56 = .ok (.dup2, 1) := by decide +kernel
theorem dX4_bind_57 : decode cX4_bind 57 = .ok (.laload, 1) := by decide +kernel
theorem dX4_bind_58 : decode cX4_bind 58 = .ok (.lconst 1, 1) := by decide +kernel
theorem dX4_bind_59 : decode cX4_bind 59 = .ok (.iload_n 1, 1) := by decide +kernel
theorem dX4_bind_60 : decode cX4_bind 60 = .ok (.lshl, 1) := by decide +kernel
theorem dX4_bind_61 : decode cX4_bind 61 = .ok (.lor, 1) := by decide +kernel
theorem dX4_bind_62 : decode cX4_bind 62 = .ok (.lastore, 1) := by decide +kernel
theorem dX4_bind_63 : decode cX4_bind 63 = .ok (.iload_n 3, 1) := by decide +kernel
theorem dX4_bind_64 : decode cX4_bind 64 = .ok (.ireturn, 1) := by decide +kernel
theorem dX4_soundsOf_0 : decode cX4_soundsOf 0 = .ok (.aload_n 0, 1) := by decide +kernel
theorem dX4_soundsOf_1 : decode cX4_soundsOf 1 = .ok (.iload_n 1, 1) := by decide +kernel
theorem dX4_soundsOf_2 : decode cX4_soundsOf 2 = .ok (.invokevirtual 33, 3) := by decide +kernel
theorem dX4_soundsOf_5 : decode cX4_soundsOf 5 = .ok (.ifCond .eq 12, 3) := by decide +kernel
theorem dX4_soundsOf_8 : decode cX4_soundsOf 8 = .ok (.aload_n 0, 1) := by decide +kernel
theorem dX4_soundsOf_9 : decode cX4_soundsOf 9 = .ok (.getfield 9, 3) := by decide +kernel
theorem dX4_soundsOf_12 : decode cX4_soundsOf 12 = .ok (.iload_n 1, 1) := by decide +kernel
theorem dX4_soundsOf_13 : decode cX4_soundsOf 13 = .ok (.iaload, 1) := by decide +kernel
theorem dX4_soundsOf_14 : decode cX4_soundsOf 14 = .ok (.goto 4, 3) := by decide +kernel
theorem dX4_soundsOf_17 : decode cX4_soundsOf 17 = .ok (.iconst 0, 1) := by decide +kernel
theorem dX4_soundsOf_18 : decode cX4_soundsOf 18 = .ok (.ireturn, 1) := by decide +kernel
theorem dX4_seasonOf_0 : decode cX4_seasonOf 0 = .ok (.aload_n 0, 1) := by decide +kernel
theorem dX4_seasonOf_1 : decode cX4_seasonOf 1 = .ok (.iload_n 1, 1) := by decide +kernel
theorem dX4_seasonOf_2 : decode cX4_seasonOf 2 = .ok (.invokevirtual 33, 3) := by decide +kernel
theorem dX4_seasonOf_5 : decode cX4_seasonOf 5 = .ok (.ifCond .eq 12, 3) := by decide +kernel
theorem dX4_seasonOf_8 : decode cX4_seasonOf 8 = .ok (.aload_n 0, 1) := by decide +kernel
theorem dX4_seasonOf_9 : decode cX4_seasonOf 9 = .ok (.getfield 15, 3) := by decide +kernel
theorem dX4_seasonOf_12 : decode cX4_seasonOf 12 = .ok (.iload_n 1, 1) := by decide +kernel
theorem dX4_seasonOf_13 : decode cX4_seasonOf 13 = .ok (.iaload, 1) := by decide +kernel
theorem dX4_seasonOf_14 : decode cX4_seasonOf 14 = .ok (.goto 4, 3) := by decide +kernel
theorem dX4_seasonOf_17 : decode cX4_seasonOf 17 = .ok (.iconst (-1), 1) := by decide +kernel
theorem dX4_seasonOf_18 : decode cX4_seasonOf 18 = .ok (.ireturn, 1) := by decide +kernel
theorem dX4_signsOf_0 : decode cX4_signsOf 0 = .ok (.aload_n 0, 1) := by decide +kernel
theorem dX4_signsOf_1 : decode cX4_signsOf 1 = .ok (.iload_n 1, 1) := by decide +kernel
theorem dX4_signsOf_2 : decode cX4_signsOf 2 = .ok (.invokevirtual 33, 3) := by decide +kernel
theorem dX4_signsOf_5 : decode cX4_signsOf 5 = .ok (.ifCond .eq 12, 3) := by decide +kernel
theorem dX4_signsOf_8 : decode cX4_signsOf 8 = .ok (.aload_n 0, 1) := by decide +kernel
theorem dX4_signsOf_9 : decode cX4_signsOf 9 = .ok (.getfield 18, 3) := by decide +kernel
theorem dX4_signsOf_12 : decode cX4_signsOf 12 = .ok (.iload_n 1, 1) := by decide +kernel
theorem dX4_signsOf_13 : decode cX4_signsOf 13 = .ok (.iaload, 1) := by decide +kernel
theorem dX4_signsOf_14 : decode cX4_signsOf 14 = .ok (.goto 4, 3) := by decide +kernel
theorem dX4_signsOf_17 : decode cX4_signsOf 17 = .ok (.iconst 0, 1) := by decide +kernel
theorem dX4_signsOf_18 : decode cX4_signsOf 18 = .ok (.ireturn, 1) := by decide +kernel
theorem dX4_calledBy_0 : decode cX4_calledBy 0 = .ok (.aload_n 0, 1) := by decide +kernel
theorem dX4_calledBy_1 : decode cX4_calledBy 1 = .ok (.iload_n 1, 1) := by decide +kernel
theorem dX4_calledBy_2 : decode cX4_calledBy 2 = .ok (.invokevirtual 33, 3) := by decide +kernel
theorem dX4_calledBy_5 : decode cX4_calledBy 5 = .ok (.ifCond .eq 12, 3) := by decide +kernel
theorem dX4_calledBy_8 : decode cX4_calledBy 8 = .ok (.aload_n 0, 1) := by decide +kernel
theorem dX4_calledBy_9 : decode cX4_calledBy 9 = .ok (.getfield 21, 3) := by decide +kernel
theorem dX4_calledBy_12 : decode cX4_calledBy 12 = .ok (.iload_n 1, 1) := by decide +kernel
theorem dX4_calledBy_13 : decode cX4_calledBy 13 = .ok (.laload, 1) := by decide +kernel
theorem dX4_calledBy_14 : decode cX4_calledBy 14 = .ok (.goto 4, 3) := by decide +kernel
theorem dX4_calledBy_17 : decode cX4_calledBy 17 = .ok (.lconst 0, 1) := by decide +kernel
theorem dX4_calledBy_18 : decode cX4_calledBy 18 = .ok (.lreturn, 1) := by decide +kernel
theorem dX5_init_0 : decode cX5_init 0 = .ok (.aload_n 0, 1) := by decide +kernel
theorem dX5_init_1 : decode cX5_init 1 = .ok (.invokespecial 3, 3) := by decide +kernel
theorem dX5_init_4 : decode cX5_init 4 = .ok (.aload_n 0, 1) := by decide +kernel
theorem dX5_init_5 : decode cX5_init 5 = .ok (.bipush 6, 2) := by decide +kernel
theorem dX5_init_7 : decode cX5_init 7 = .ok (.newarray .int, 2) := by decide +kernel
theorem dX5_init_9 : decode cX5_init 9 = .ok (.putfield 9, 3) := by decide +kernel
theorem dX5_init_12 : decode cX5_init 12 = .ok (.aload_n 0, 1) := by decide +kernel
theorem dX5_init_13 : decode cX5_init 13 = .ok (.iconst (-1), 1) := by decide +kernel
theorem dX5_init_14 : decode cX5_init 14 = .ok (.putfield 15, 3) := by decide +kernel
theorem dX5_init_17 : decode cX5_init 17 = .ok (.return_, 1) := by decide +kernel
theorem dX5_empty_0 : decode cX5_empty 0 = .ok (.aload_n 0, 1) := by decide +kernel
theorem dX5_empty_1 : decode cX5_empty 1 = .ok (.iconst 0, 1) := by decide +kernel
theorem dX5_empty_2 : decode cX5_empty 2 = .ok (.putfield 19, 3) := by decide +kernel
theorem dX5_empty_5 : decode cX5_empty 5 = .ok (.aload_n 0, 1) := by decide +kernel
theorem dX5_empty_6 : decode cX5_empty 6 = .ok (.iconst 0, 1) := by decide +kernel
theorem dX5_empty_7 : decode cX5_empty 7 = .ok (.putfield 22, 3) := by decide +kernel
theorem dX5_empty_10 : decode cX5_empty 10 = .ok (.aload_n 0, 1) := by decide +kernel
theorem dX5_empty_11 : decode cX5_empty 11 = .ok (.iconst (-1), 1) := by decide +kernel
theorem dX5_empty_12 : decode cX5_empty 12 = .ok (.putfield 15, 3) := by decide +kernel
theorem dX5_empty_15 : decode cX5_empty 15 = .ok (.aload_n 0, 1) := by decide +kernel
theorem dX5_empty_16 : decode cX5_empty 16 = .ok (.iconst 0, 1) := by decide +kernel
theorem dX5_empty_17 : decode cX5_empty 17 = .ok (.putfield 25, 3) := by decide +kernel
theorem dX5_empty_20 : decode cX5_empty 20 = .ok (.aload_n 0, 1) := by decide +kernel
theorem dX5_empty_21 : decode cX5_empty 21 = .ok (.lconst 0, 1) := by decide +kernel
theorem dX5_empty_22 : decode cX5_empty 22 = .ok (.putfield 28, 3) := by decide +kernel
theorem dX5_empty_25 : decode cX5_empty 25 = .ok (.return_, 1) := by decide +kernel
theorem dX5_append_0 : decode cX5_append 0 = .ok (.aload_n 0, 1) := by decide +kernel
theorem dX5_append_1 : decode cX5_append 1 = .ok (.getfield 19, 3) := by decide +kernel
theorem dX5_append_4 : decode cX5_append 4 = .ok (.bipush 6, 2) := by decide +kernel
theorem dX5_append_6 : decode cX5_append 6 = .ok (.if_icmp .ge 11, 3) := by decide +kernel
theorem dX5_append_9 : decode cX5_append 9 = .ok (.aload_n 2, 1) := by decide +kernel
theorem dX5_append_10 : decode cX5_append 10 = .ok (.iload_n 1, 1) := by decide +kernel
theorem dX5_append_11 : decode cX5_append 11 = .ok (.invokevirtual 32, 3) := by decide +kernel
theorem dX5_append_14 : decode cX5_append 14 = .ok (.ifCond .ne 4, 3) := by decide +kernel
theorem dX5_append_17 : decode cX5_append 17 = .ok (.return_, 1) := by decide +kernel
theorem dX5_append_18 : decode cX5_append 18 = .ok (.aload_n 0, 1) := by decide +kernel
theorem dX5_append_19 : decode cX5_append 19 = .ok (.getfield 9, 3) := by decide +kernel
theorem dX5_append_22 : decode cX5_append 22 = .ok (.aload_n 0, 1) := by decide +kernel
theorem dX5_append_23 : decode cX5_append 23 = .ok (.getfield 19, 3) := by decide +kernel
theorem dX5_append_26 : decode cX5_append 26 = .ok (.iload_n 1, 1) := by decide +kernel
theorem dX5_append_27 : decode cX5_append 27 = .ok (.iastore, 1) := by decide +kernel
theorem dX5_append_28 : decode cX5_append 28 = .ok (.aload_n 0, 1) := by decide +kernel
theorem dX5_append_29 : decode cX5_append 29 = .ok (.dup, 1) := by decide +kernel
theorem dX5_append_30 : decode cX5_append 30 = .ok (.getfield 19, 3) := by decide +kernel
theorem dX5_append_33 : decode cX5_append 33 = .ok (.iconst 1, 1) := by decide +kernel
theorem dX5_append_34 : decode cX5_append 34 = .ok (.iadd, 1) := by decide +kernel
theorem dX5_append_35 : decode cX5_append 35 = .ok (.putfield 19, 3) := by decide +kernel
theorem dX5_append_38 : decode cX5_append 38 = .ok (.aload_n 0, 1) := by decide +kernel
theorem dX5_append_39 : decode cX5_append 39 = .ok (.dup, 1) := by decide +kernel
theorem dX5_append_40 : decode cX5_append 40 = .ok (.getfield 22, 3) := by decide +kernel
theorem dX5_append_43 : decode cX5_append 43 = .ok (.aload_n 2, 1) := by decide +kernel
theorem dX5_append_44 : decode cX5_append 44 = .ok (.iload_n 1, 1) := by decide +kernel
theorem dX5_append_45 : decode cX5_append 45 = .ok (.invokevirtual 38, 3) := by decide +kernel
theorem dX5_append_48 : decode cX5_append 48 = .ok (.iadd, 1) := by decide +kernel
theorem dX5_append_49 : decode cX5_append 49 = .ok (.putfield 22, 3) := by decide +kernel
theorem dX5_append_52 : decode cX5_append 52 = .ok (.aload_n 0, 1) := by decide +kernel
theorem dX5_append_53 : decode cX5_append 53 = .ok (.getfield 15, 3) := by decide +kernel
theorem dX5_append_56 : decode cX5_append 56 = .ok (.iconst (-1), 1) := by decide +kernel
theorem dX5_append_57 : decode cX5_append 57 = .ok (.if_icmp .ne 12, 3) := by decide +kernel
theorem dX5_append_60 : decode cX5_append 60 = .ok (.aload_n 0, 1) := by decide +kernel
theorem dX5_append_61 : decode cX5_append 61 = .ok (.aload_n 2, 1) := by decide +kernel
theorem dX5_append_62 : decode cX5_append 62 = .ok (.iload_n 1, 1) := by decide +kernel
theorem dX5_append_63 : decode cX5_append 63 = .ok (.invokevirtual 42, 3) := by decide +kernel
theorem dX5_append_66 : decode cX5_append 66 = .ok (.putfield 15, 3) := by decide +kernel
theorem dX5_append_69 : decode cX5_append 69 = .ok (.aload_n 0, 1) := by decide +kernel
theorem dX5_append_70 : decode cX5_append 70 = .ok (.dup, 1) := by decide +kernel
theorem dX5_append_71 : decode cX5_append 71 = .ok (.getfield 25, 3) := by decide +kernel
theorem dX5_append_74 : decode cX5_append 74 = .ok (.aload_n 2, 1) := by decide +kernel
theorem dX5_append_75 : decode cX5_append 75 = .ok (.iload_n 1, 1) := by decide +kernel
theorem dX5_append_76 : decode cX5_append 76 = .ok (.invokevirtual 45, 3) := by decide +kernel
theorem dX5_append_79 : decode cX5_append 79 = .ok (.ior, 1) := by decide +kernel
theorem dX5_append_80 : decode cX5_append 80 = .ok (.putfield 25, 3) := by decide +kernel
theorem dX5_append_83 : decode cX5_append 83 = .ok (.aload_n 0, 1) := by decide +kernel
theorem dX5_append_84 : decode cX5_append 84 = .ok (.dup, 1) := by decide +kernel
theorem dX5_append_85 : decode cX5_append 85 = .ok (.getfield 28, 3) := by decide +kernel
theorem dX5_append_88 : decode cX5_append 88 = .ok (.lconst 1, 1) := by decide +kernel
theorem dX5_append_89 : decode cX5_append 89 = .ok (.iload_n 1, 1) := by decide +kernel
theorem dX5_append_90 : decode cX5_append 90 = .ok (.lshl, 1) := by decide +kernel
theorem dX5_append_91 : decode cX5_append 91 = .ok (.lor, 1) := by decide +kernel
theorem dX5_append_92 : decode cX5_append 92 = .ok (.putfield 28, 3) := by decide +kernel
theorem dX5_append_95 : decode cX5_append 95 = .ok (.return_, 1) := by decide +kernel
theorem dX5_take_0 : decode cX5_take 0 = .ok (.aload_n 0, 1) := by decide +kernel
theorem dX5_take_1 : decode cX5_take 1 = .ok (.aload_n 1, 1) := by decide +kernel
theorem dX5_take_2 : decode cX5_take 2 = .ok (.iconst (-1), 1) := by decide +kernel
theorem dX5_take_3 : decode cX5_take 3 = .ok (.iconst (-1), 1) := by decide +kernel
theorem dX5_take_4 : decode cX5_take 4 = .ok (.aload_n 2, 1) := by decide +kernel
theorem dX5_take_5 : decode cX5_take 5 = .ok (.invokevirtual 48, 3) := by decide +kernel
theorem dX5_take_8 : decode cX5_take 8 = .ok (.return_, 1) := by decide +kernel
theorem dX5_takeMended_0 : decode cX5_takeMended 0 = .ok (.aload_n 0, 1) := by decide +kernel
theorem dX5_takeMended_1 : decode cX5_takeMended 1 = .ok (.invokevirtual 52, 3) := by decide +kernel
theorem dX5_takeMended_4 : decode cX5_takeMended 4 = .ok (.iconst 0, 1) := by decide +kernel
theorem dX5_takeMended_5 : decode cX5_takeMended 5 = .ok (.istore 5, 2) := by decide +kernel
theorem dX5_takeMended_7 : decode cX5_takeMended 7 = .ok (.iload 5, 2) := by decide +kernel
theorem dX5_takeMended_9 : decode cX5_takeMended 9 = .ok (.aload_n 1, 1) := by decide +kernel
theorem dX5_takeMended_10 : decode cX5_takeMended 10 = .ok (.getfield 19, 3) := by decide +kernel
theorem dX5_takeMended_13 : decode cX5_takeMended 13 = .ok (.if_icmp .ge 31, 3) := by decide +kernel
theorem dX5_takeMended_16 : decode cX5_takeMended 16 = .ok (.aload_n 0, 1) := by decide +kernel
theorem dX5_takeMended_17 : decode cX5_takeMended 17 = .ok (.iload 5, 2) := by decide +kernel
theorem dX5_takeMended_19 : decode cX5_takeMended 19 = .ok (.iload_n 2, 1) := by decide +kernel
theorem dX5_takeMended_20 : decode cX5_takeMended 20 = .ok (.if_icmp .ne 7, 3) := by decide +kernel
theorem dX5_takeMended_23 : decode cX5_takeMended 23 = .ok (.iload_n 3, 1) := by decide +kernel
theorem dX5_takeMended_24 : decode cX5_takeMended 24 = .ok (.goto 9, 3) := by decide +kernel
theorem dX5_takeMended_27 : decode cX5_takeMended 27 = .ok (.aload_n 1, 1) := by decide +kernel
theorem dX5_takeMended_28 : decode cX5_takeMended 28 = .ok (.iload 5, 2) := by decide +kernel
theorem dX5_takeMended_30 : decode cX5_takeMended 30 = .ok (.invokevirtual 55, 3) := by decide +kernel
theorem dX5_takeMended_33 : decode cX5_takeMended 33 = .ok (.aload 4, 2) := by decide +kernel
theorem dX5_takeMended_35 : decode cX5_takeMended 35 = .ok (.invokevirtual 58, 3) := by decide +kernel
theorem dX5_takeMended_38 : decode cX5_takeMended 38 = .ok (.iinc 5 1, 3) := by decide +kernel
theorem dX5_takeMended_41 : decode cX5_takeMended 41 = .ok (.goto (-34), 3) := by decide +kernel
theorem dX5_takeMended_44 : decode cX5_takeMended 44 = .ok (.return_, 1) := by decide +kernel
theorem dX5_wordOrNone_0 : decode cX5_wordOrNone 0 = .ok (.iload_n 1, 1) := by decide +kernel
theorem dX5_wordOrNone_1 : decode cX5_wordOrNone 1 = .ok (.ifCond .lt 26, 3) := by decide +kernel
theorem dX5_wordOrNone_4 : decode cX5_wordOrNone 4 = .ok (.iload_n 1, 1) := by decide +kernel
theorem dX5_wordOrNone_5 : decode cX5_wordOrNone 5 = .ok (.aload_n 0, 1) := by decide +kernel
theorem dX5_wordOrNone_6 : decode cX5_wordOrNone 6 = .ok (.getfield 19, 3) := by decide +kernel
theorem dX5_wordOrNone_9 : decode cX5_wordOrNone 9 = .ok (.if_icmp .ge 18, 3) := by decide +kernel
theorem dX5_wordOrNone_12 : decode cX5_wordOrNone 12 = .ok (.iload_n 1, 1) := by decide +kernel
theorem dX5_wordOrNone_13 : decode cX5_wordOrNone 13 = .ok (.bipush 6, 2) := by decide +kernel
theorem dX5_wordOrNone_15 : decode cX5_wordOrNone 15 = .ok (.if_icmp .ge 12, 3) := by decide +kernel
theorem dX5_wordOrNone_18 : decode cX5_wordOrNone 18 = .ok (.aload_n 0, 1) := by decide +kernel
theorem dX5_wordOrNone_19 : decode cX5_wordOrNone 19 = .ok (.getfield 9, 3) := by decide +kernel
theorem dX5_wordOrNone_22 : decode cX5_wordOrNone 22 = .ok (.iload_n 1, 1) := by decide +kernel
theorem dX5_wordOrNone_23 : decode cX5_wordOrNone 23 = .ok (.iaload, 1) := by decide +kernel
theorem dX5_wordOrNone_24 : decode cX5_wordOrNone 24 = .ok (.goto 4, 3) := by decide +kernel
theorem dX5_wordOrNone_27 : decode cX5_wordOrNone 27 = .ok (.iconst (-1), 1) := by decide +kernel
theorem dX5_wordOrNone_28 : decode cX5_wordOrNone 28 = .ok (.ireturn, 1) := by decide +kernel
theorem dX6_init_0 : decode cX6_init 0 = .ok (.aload_n 0, 1) := by decide +kernel
theorem dX6_init_1 : decode cX6_init 1 = .ok (.invokespecial 1, 3) := by decide +kernel
theorem dX6_init_4 : decode cX6_init 4 = .ok (.new 7, 3) := by decide +kernel
theorem dX6_init_7 : decode cX6_init 7 = .ok (.dup, 1) := by decide +kernel
theorem dX6_init_8 : decode cX6_init 8 = .ok (.invokespecial 9, 3) := by decide +kernel
theorem dX6_init_11 : decode cX6_init 11 = .ok (.astore_n 1, 1) := by decide +kernel
theorem dX6_init_12 : decode cX6_init 12 = .ok (.new 10, 3) := by decide +kernel
theorem dX6_init_15 : decode cX6_init 15 = .ok (.dup, 1) := by decide +kernel
theorem dX6_init_16 : decode cX6_init 16 = .ok (.invokespecial 12, 3) := by decide +kernel
theorem dX6_init_19 : decode cX6_init 19 = .ok (.astore_n 2, 1) := by decide +kernel
theorem dX6_init_20 : decode cX6_init 20 = .ok (.aload_n 0, 1) := by decide +kernel
theorem dX6_init_21 : decode cX6_init 21 = .ok (.aload_n 1, 1) := by decide +kernel
theorem dX6_init_22 : decode cX6_init 22 = .ok (.putfield 13, 3) := by decide +kernel
theorem dX6_init_25 : decode cX6_init 25 = .ok (.aload_n 0, 1) := by decide +kernel
theorem dX6_init_26 : decode cX6_init 26 = .ok (.aload_n 2, 1) := by decide +kernel
theorem dX6_init_27 : decode cX6_init 27 = .ok (.putfield 19, 3) := by decide +kernel
theorem dX6_init_30 : decode cX6_init 30 = .ok (.aload_n 0, 1) := by decide +kernel
theorem dX6_init_31 : decode cX6_init 31 = .ok (.new 23, 3) := by decide +kernel
theorem dX6_init_34 : decode cX6_init 34 = .ok (.dup, 1) := by decide +kernel
theorem dX6_init_35 : decode cX6_init 35 = .ok (.aload_n 1, 1) := by decide +kernel
theorem dX6_init_36 : decode cX6_init 36 = .ok (.aload_n 2, 1) := by decide +kernel
theorem dX6_init_37 : decode cX6_init 37 = .ok (.invokespecial 25, 3) := by decide +kernel
theorem dX6_init_40 : decode cX6_init 40 = .ok (.putfield 28, 3) := by decide +kernel
theorem dX6_init_43 : decode cX6_init 43 = .ok (.aload_n 0, 1) := by decide +kernel
theorem dX6_init_44 : decode cX6_init 44 = .ok (.new 32, 3) := by decide +kernel
theorem dX6_init_47 : decode cX6_init 47 = .ok (.dup, 1) := by decide +kernel
theorem dX6_init_48 : decode cX6_init 48 = .ok (.invokespecial 34, 3) := by decide +kernel
theorem dX6_init_51 : decode cX6_init 51 = .ok (.putfield 35, 3) := by decide +kernel
theorem dX6_init_54 : decode cX6_init 54 = .ok (.aload_n 0, 1) := by decide +kernel
theorem dX6_init_55 : decode cX6_init 55 = .ok (.new 32, 3) := by decide +kernel
theorem dX6_init_58 : decode cX6_init 58 = .ok (.dup, 1) := by decide +kernel
theorem dX6_init_59 : decode cX6_init 59 = .ok (.invokespecial 34, 3) := by decide +kernel
theorem dX6_init_62 : decode cX6_init 62 = .ok (.putfield 39, 3) := by decide +kernel
theorem dX6_init_65 : decode cX6_init 65 = .ok (.aload_n 0, 1) := by decide +kernel
theorem dX6_init_66 : decode cX6_init 66 = .ok (.new 42, 3) := by decide +kernel
theorem dX6_init_69 : decode cX6_init 69 = .ok (.dup, 1) := by decide +kernel
theorem dX6_init_70 : decode cX6_init 70 = .ok (.invokespecial 44, 3) := by decide +kernel
theorem dX6_init_73 : decode cX6_init 73 = .ok (.putfield 45, 3) := by decide +kernel
theorem dX6_init_76 : decode cX6_init 76 = .ok (.aload_n 0, 1) := by decide +kernel
theorem dX6_init_77 : decode cX6_init 77 = .ok (.iconst 4, 1) := by decide +kernel
theorem dX6_init_78 : decode cX6_init 78 = .ok (.newarray .int, 2) := by decide +kernel
theorem dX6_init_80 : decode cX6_init 80 = .ok (.putfield 49, 3) := by decide +kernel
theorem dX6_init_83 : decode cX6_init 83 = .ok (.aload_n 0, 1) := by decide +kernel
theorem dX6_init_84 : decode cX6_init 84 = .ok (.iconst 4, 1) := by decide +kernel
theorem dX6_init_85 : decode cX6_init 85 = .ok (.anewarray 32, 3) := by decide +kernel
theorem dX6_init_88 : decode cX6_init 88 = .ok (.putfield 53, 3) := by decide +kernel
theorem dX6_init_91 : decode cX6_init 91 = .ok (.iconst 0, 1) := by decide +kernel
theorem dX6_init_92 : decode cX6_init 92 = .ok (.istore_n 3, 1) := by decide +kernel
theorem dX6_init_93 : decode cX6_init 93 = .ok (.iload_n 3, 1) := by decide +kernel
theorem dX6_init_94 : decode cX6_init 94 = .ok (.iconst 4, 1) := by decide +kernel
theorem dX6_init_95 : decode cX6_init 95 = .ok (.if_icmp .ge 22, 3) := by decide +kernel
theorem dX6_init_98 : decode cX6_init 98 = .ok (.aload_n 0, 1) := by decide +kernel
theorem dX6_init_99 : decode cX6_init 99 = .ok (.getfield 53, 3) := by decide +kernel
theorem dX6_init_102 : decode cX6_init 102 = .ok (.iload_n 3, 1) := by decide +kernel
theorem dX6_init_103 : decode cX6_init 103 = .ok (.new 32, 3) := by decide +kernel
theorem dX6_init_106 : decode cX6_init 106 = .ok (.dup, 1) := by decide +kernel
theorem dX6_init_107 : decode cX6_init 107 = .ok (.invokespecial 34, 3) := by decide +kernel
theorem dX6_init_110 : decode cX6_init 110 = .ok (.aastore, 1) := by decide +kernel
theorem dX6_init_111 : decode cX6_init 111 = .ok (.iinc 3 1, 3) := by decide +kernel
theorem dX6_init_114 : decode cX6_init 114 = .ok (.goto (-21), 3) := by decide +kernel
theorem dX6_init_117 : decode cX6_init 117 = .ok (.aload_n 0, 1) := by decide +kernel
theorem dX6_init_118 : decode cX6_init 118 = .ok (.bipush 8, 2) := by decide +kernel
theorem dX6_init_120 : decode cX6_init 120 = .ok (.anewarray 57, 3) := by decide +kernel
theorem dX6_init_123 : decode cX6_init 123 = .ok (.putfield 59, 3) := by decide +kernel
theorem dX6_init_126 : decode cX6_init 126 = .ok (.iconst 0, 1) := by decide +kernel
theorem dX6_init_127 : decode cX6_init 127 = .ok (.istore_n 3, 1) := by decide +kernel
theorem dX6_init_128 : decode cX6_init 128 = .ok (.iload_n 3, 1) := by decide +kernel
theorem dX6_init_129 : decode cX6_init 129 = .ok (.bipush 8, 2) := by decide +kernel
theorem dX6_init_131 : decode cX6_init 131 = .ok (.if_icmp .ge 22, 3) := by decide +kernel
theorem dX6_init_134 : decode cX6_init 134 = .ok (.aload_n 0, 1) := by decide +kernel
theorem dX6_init_135 : decode cX6_init 135 = .ok (.getfield 59, 3) := by decide +kernel
theorem dX6_init_138 : decode cX6_init 138 = .ok (.iload_n 3, 1) := by decide +kernel
theorem dX6_init_139 : decode cX6_init 139 = .ok (.new 57, 3) := by decide +kernel
theorem dX6_init_142 : decode cX6_init 142 = .ok (.dup, 1) := by decide +kernel
theorem dX6_init_143 : decode cX6_init 143 = .ok (.invokespecial 63, 3) := by decide +kernel
theorem dX6_init_146 : decode cX6_init 146 = .ok (.aastore, 1) := by decide +kernel
theorem dX6_init_147 : decode cX6_init 147 = .ok (.iinc 3 1, 3) := by decide +kernel
theorem dX6_init_150 : decode cX6_init 150 = .ok (.goto (-22), 3) := by decide +kernel
theorem dX6_init_153 : decode cX6_init 153 = .ok (.aload_n 0, 1) := by decide +kernel
theorem dX6_init_154 : decode cX6_init 154 = .ok (.iconst (-1), 1) := by decide +kernel
theorem dX6_init_155 : decode cX6_init 155 = .ok (.putfield 64, 3) := by decide +kernel
theorem dX6_init_158 : decode cX6_init 158 = .ok (.return_, 1) := by decide +kernel
theorem dX6_word_0 : decode cX6_word 0 = .ok (.aload_n 0, 1) := by decide +kernel
theorem dX6_word_1 : decode cX6_word 1 = .ok (.iload_n 1, 1) := by decide +kernel
theorem dX6_word_2 : decode cX6_word 2 = .ok (.iconst 1, 1) := by decide +kernel
theorem dX6_word_3 : decode cX6_word 3 = .ok (.bipush 12, 2) := by decide +kernel
theorem dX6_word_5 : decode cX6_word 5 = .ok (.invokevirtual 68, 3) := by decide +kernel
theorem dX6_word_8 : decode cX6_word 8 = .ok (.aload_n 0, 1) := by decide +kernel
theorem dX6_word_9 : decode cX6_word 9 = .ok (.iload_n 2, 1) := by decide +kernel
theorem dX6_word_10 : decode cX6_word 10 = .ok (.iconst (-1), 1) := by decide +kernel
theorem dX6_word_11 : decode cX6_word 11 = .ok (.iconst 3, 1) := by decide +kernel
theorem dX6_word_12 : decode cX6_word 12 = .ok (.invokevirtual 68, 3) := by decide +kernel
theorem dX6_word_15 : decode cX6_word 15 = .ok (.aload_n 0, 1) := by decide +kernel
theorem dX6_word_16 : decode cX6_word 16 = .ok (.iload_n 3, 1) := by decide +kernel
theorem dX6_word_17 : decode cX6_word 17 = .ok (.iconst 0, 1) := by decide +kernel
theorem dX6_word_18 : decode cX6_word 18 = .ok (.sipush 1023, 3) := by decide +kernel
theorem dX6_word_21 : decode cX6_word 21 = .ok (.invokevirtual 68, 3) := by decide +kernel
theorem dX6_word_24 : decode cX6_word 24 = .ok (.aload_n 0, 1) := by decide +kernel
theorem dX6_word_25 : decode cX6_word 25 = .ok (.getfield 13, 3) := by decide +kernel
theorem dX6_word_28 : decode cX6_word 28 = .ok (.invokevirtual 72, 3) := by decide +kernel
theorem dX6_word_31 : decode cX6_word 31 = .ok (.ifCond .eq 13, 3) := by decide +kernel
theorem dX6_word_34 : decode cX6_word 34 = .ok (.new 76, 3) := by decide +kernel
theorem dX6_word_37 : decode cX6_word 37 = .ok (.dup, 1) := by decide +kernel
theorem dX6_word_38 : decode cX6_word 38 = .ok (.ldc 78, 2) := by decide +kernel
theorem dX6_word_40 : decode cX6_word 40 = .ok (.invokespecial 80, 3) := by decide +kernel
theorem dX6_word_43 : decode cX6_word 43 = .ok (.athrow, 1) := by decide +kernel
theorem dX6_word_44 : decode cX6_word 44 = .ok (.aload_n 0, 1) := by decide +kernel
theorem dX6_word_45 : decode cX6_word 45 = .ok (.getfield 13, 3) := by decide +kernel
theorem dX6_word_48 : decode cX6_word 48 = .ok (.iload_n 1, 1) := by decide +kernel
theorem dX6_word_49 : decode cX6_word 49 = .ok (.iload_n 2, 1) := by decide +kernel
theorem dX6_word_50 : decode cX6_word 50 = .ok (.iload_n 3, 1) := by decide +kernel
theorem dX6_word_51 : decode cX6_word 51 = .ok (.invokevirtual 83, 3) := by decide +kernel
theorem dX6_word_54 : decode cX6_word 54 = .ok (.ireturn, 1) := by decide +kernel
theorem dX6_call_0 : decode cX6_call 0 = .ok (.aload_n 0, 1) := by decide +kernel
theorem dX6_call_1 : decode cX6_call 1 = .ok (.iload_n 1, 1) := by decide +kernel
theorem dX6_call_2 : decode cX6_call 2 = .ok (.invokevirtual 87, 3) := by decide +kernel
theorem dX6_call_5 : decode cX6_call 5 = .ok (.aload_n 0, 1) := by decide +kernel
theorem dX6_call_6 : decode cX6_call 6 = .ok (.iload_n 2, 1) := by decide +kernel
theorem dX6_call_7 : decode cX6_call 7 = .ok (.invokevirtual 87, 3) := by decide +kernel
theorem dX6_call_10 : decode cX6_call 10 = .ok (.iload_n 1, 1) := by decide +kernel
theorem dX6_call_11 : decode cX6_call 11 = .ok (.iload_n 2, 1) := by decide +kernel
theorem dX6_call_12 : decode cX6_call 12 = .ok (.if_icmp .ne 13, 3) := by decide +kernel
theorem dX6_call_15 : decode cX6_call 15 = .ok (.new 91, 3) := by decide +kernel
theorem dX6_call_18 : decode cX6_call 18 = .ok (.dup, 1) := by decide +kernel
theorem dX6_call_19 : decode cX6_call 19 = .ok (.ldc 93, 2) := by decide +kernel
theorem dX6_call_21 : decode cX6_call 21 = .ok (.invokespecial 95, 3) := by decide +kernel
theorem dX6_call_24 : decode cX6_call 24 = .ok (.athrow, 1) := by decide +kernel
theorem dX6_call_25 : decode cX6_call 25 = .ok (.aload_n 0, 1) := by decide +kernel
theorem dX6_call_26 : decode cX6_call 26 = .ok (.getfield 13, 3) := by decide +kernel
theorem dX6_call_29 : decode cX6_call 29 = .ok (.iload_n 1, 1) := by decide +kernel
theorem dX6_call_30 : decode cX6_call 30 = .ok (.iload_n 2, 1) := by decide +kernel
theorem dX6_call_31 : decode cX6_call 31 = .ok (.invokevirtual 96, 3) := by decide +kernel
theorem dX6_call_34 : decode cX6_call 34 = .ok (.ireturn, 1) := by decide +kernel
theorem dX6_poet_0 : decode cX6_poet 0 = .ok (.aload_n 0, 1) := by decide +kernel
theorem dX6_poet_1 : decode cX6_poet 1 = .ok (.getfield 100, 3) := by decide +kernel
theorem dX6_poet_4 : decode cX6_poet 4 = .ok (.bipush 6, 2) := by decide +kernel
theorem dX6_poet_6 : decode cX6_poet 6 = .ok (.if_icmp .lt 13, 3) := by decide +kernel
theorem dX6_poet_9 : decode cX6_poet 9 = .ok (.new 76, 3) := by decide +kernel
theorem dX6_poet_12 : decode cX6_poet 12 = .ok (.dup, 1) := by decide +kernel
theorem dX6_poet_13 : decode cX6_poet 13 = .ok (.ldc 103, 2) := by decide +kernel
theorem dX6_poet_15 : decode cX6_poet 15 = .ok (.invokespecial 80, 3) := by decide +kernel
theorem dX6_poet_18 : decode cX6_poet 18 = .ok (.athrow, 1) := by decide +kernel
theorem dX6_poet_19 : decode cX6_poet 19 = .ok (.aload_n 0, 1) := by decide +kernel
theorem dX6_poet_20 : decode cX6_poet 20 = .ok (.dup, 1) := by decide +kernel
theorem dX6_poet_21 : decode cX6_poet 21 = .ok (.getfield 100, 3) := by decide +kernel
theorem dX6_poet_24 : decode cX6_poet 24 = .ok (.iconst 1, 1) := by decide +kernel
theorem dX6_poet_25 : decode cX6_poet 25 = .ok (.iadd, 1) := by decide +kernel
theorem dX6_poet_26 : decode cX6_poet 26 = .ok (.putfield 100, 3) := by decide +kernel
theorem dX6_poet_29 : decode cX6_poet 29 = .ok (.aload_n 0, 1) := by decide +kernel
theorem dX6_poet_30 : decode cX6_poet 30 = .ok (.getfield 100, 3) := by decide +kernel
theorem dX6_poet_33 : decode cX6_poet 33 = .ok (.iconst 1, 1) := by decide +kernel
theorem dX6_poet_34 : decode cX6_poet 34 = .ok (.isub, 1) := by decide +kernel
theorem dX6_poet_35 : decode cX6_poet 35 = .ok (.ireturn, 1) := by decide +kernel
theorem dX6_begin_0 : decode cX6_begin 0 = .ok (.aload_n 0, 1) := by decide +kernel
theorem dX6_begin_1 : decode cX6_begin 1 = .ok (.iload_n 1, 1) := by decide +kernel
theorem dX6_begin_2 : decode cX6_begin 2 = .ok (.iconst 2, 1) := by decide +kernel
theorem dX6_begin_3 : decode cX6_begin 3 = .ok (.bipush 36, 2) := by decide +kernel
theorem dX6_begin_5 : decode cX6_begin 5 = .ok (.invokevirtual 68, 3) := by decide +kernel
theorem dX6_begin_8 : decode cX6_begin 8 = .ok (.aload_n 0, 1) := by decide +kernel
theorem dX6_begin_9 : decode cX6_begin 9 = .ok (.iload_n 2, 1) := by decide +kernel
theorem dX6_begin_10 : decode cX6_begin 10 = .ok (.iconst 0, 1) := by decide +kernel
theorem dX6_begin_11 : decode cX6_begin 11 = .ok (.bipush 10, 2) := by decide +kernel
theorem dX6_begin_13 : decode cX6_begin 13 = .ok (.invokevirtual 68, 3) := by decide +kernel
theorem dX6_begin_16 : decode cX6_begin 16 = .ok (.aload_n 0, 1) := by decide +kernel
theorem dX6_begin_17 : decode cX6_begin 17 = .ok (.iload_n 3, 1) := by decide +kernel
theorem dX6_begin_18 : decode cX6_begin 18 = .ok (.iconst 2, 1) := by decide +kernel
theorem dX6_begin_19 : decode cX6_begin 19 = .ok (.bipush 40, 2) := by decide +kernel
theorem dX6_begin_21 : decode cX6_begin 21 = .ok (.invokevirtual 68, 3) := by decide +kernel
theorem dX6_begin_24 : decode cX6_begin 24 = .ok (.aload_n 0, 1) := by decide +kernel
theorem dX6_begin_25 : decode cX6_begin 25 = .ok (.iload 4, 2) := by decide +kernel
theorem dX6_begin_27 : decode cX6_begin 27 = .ok (.iconst 2, 1) := by decide +kernel
theorem dX6_begin_28 : decode cX6_begin 28 = .ok (.bipush 40, 2) := by decide +kernel
theorem dX6_begin_30 : decode cX6_begin 30 = .ok (.invokevirtual 68, 3) := by decide +kernel
theorem dX6_begin_33 : decode cX6_begin 33 = .ok (.aload_n 0, 1) := by decide +kernel
theorem dX6_begin_34 : decode cX6_begin 34 = .ok (.getfield 19, 3) := by decide +kernel
theorem dX6_begin_37 : decode cX6_begin 37 = .ok (.invokevirtual 105, 3) := by decide +kernel
theorem dX6_begin_40 : decode cX6_begin 40 = .ok (.ifCond .eq 23, 3) := by decide +kernel
theorem dX6_begin_43 : decode cX6_begin 43 = .ok (.aload_n 0, 1) := by decide +kernel
theorem dX6_begin_44 : decode cX6_begin 44 = .ok (.getfield 19, 3) := by decide +kernel
theorem dX6_begin_47 : decode cX6_begin 47 = .ok (.getfield 108, 3) := by decide +kernel
theorem dX6_begin_50 : decode cX6_begin 50 = .ok (.ifCond .le 13, 3) := by decide +kernel
theorem dX6_begin_53 : decode cX6_begin 53 = .ok (.new 76, 3) := by decide +kernel
theorem dX6_begin_56 : decode cX6_begin 56 = .ok (.dup, 1) := by decide +kernel
theorem dX6_begin_57 : decode cX6_begin 57 = .ok (.ldc 111, 2) := by decide +kernel
theorem dX6_begin_59 : decode cX6_begin 59 = .ok (.invokespecial 80, 3) := by decide +kernel
theorem dX6_begin_62 : decode cX6_begin 62 = .ok (.athrow, 1) := by decide +kernel
theorem dX6_begin_63 : decode cX6_begin 63 = .ok (.aload_n 0, 1) := by decide +kernel
theorem dX6_begin_64 : decode cX6_begin 64 = .ok (.getfield 19, 3) := by decide +kernel
theorem dX6_begin_67 : decode cX6_begin 67 = .ok (.iload_n 1, 1) := by decide +kernel
theorem dX6_begin_68 : decode cX6_begin 68 = .ok (.iload_n 2, 1) := by decide +kernel
theorem dX6_begin_69 : decode cX6_begin 69 = .ok (.iload_n 3, 1) := by decide +kernel
theorem dX6_begin_70 : decode cX6_begin 70 = .ok (.iload 4, 2) := by decide +kernel
theorem dX6_begin_72 : decode cX6_begin 72 = .ok (.invokevirtual 113, 3) := by decide +kernel
theorem dX6_begin_75 : decode cX6_begin 75 = .ok (.aload_n 0, 1) := by decide +kernel
theorem dX6_begin_76 : decode cX6_begin 76 = .ok (.iconst 0, 1) := by decide +kernel
theorem dX6_begin_77 : decode cX6_begin 77 = .ok (.putfield 117, 3) := by decide +kernel
theorem dX6_begin_80 : decode cX6_begin 80 = .ok (.aload_n 0, 1) := by decide +kernel
theorem dX6_begin_81 : decode cX6_begin 81 = .ok (.iconst 0, 1) := by decide +kernel
theorem dX6_begin_82 : decode cX6_begin 82 = .ok (.putfield 120, 3) := by decide +kernel
theorem dX6_begin_85 : decode cX6_begin 85 = .ok (.return_, 1) := by decide +kernel
theorem dX6_seat_0 : decode cX6_seat 0 = .ok (.iload_n 1, 1) := by decide +kernel
theorem dX6_seat_1 : decode cX6_seat 1 = .ok (.aload_n 0, 1) := by decide +kernel
theorem dX6_seat_2 : decode cX6_seat 2 = .ok (.getfield 19, 3) := by decide +kernel
theorem dX6_seat_5 : decode cX6_seat 5 = .ok (.getfield 108, 3) := by decide +kernel
theorem dX6_seat_8 : decode cX6_seat 8 = .ok (.if_icmp .lt 14, 3) := by decide +kernel
theorem dX6_seat_11 : decode cX6_seat 11 = .ok (.iload_n 1, 1) := by decide +kernel
theorem dX6_seat_12 : decode cX6_seat 12 = .ok (.aload_n 0, 1) := by decide +kernel
theorem dX6_seat_13 : decode cX6_seat 13 = .ok (.getfield 19, 3) := by decide +kernel
theorem dX6_seat_16 : decode cX6_seat 16 = .ok (.getfield 123, 3) := by decide +kernel
theorem dX6_seat_19 : decode cX6_seat 19 = .ok (.if_icmp .lt 13, 3) := by decide +kernel
theorem dX6_seat_22 : decode cX6_seat 22 = .ok (.new 126, 3) := by decide +kernel
theorem dX6_seat_25 : decode cX6_seat 25 = .ok (.dup, 1) := by decide +kernel
theorem dX6_seat_26 : decode cX6_seat 26 = .ok (.ldc 128, 2) := by decide +kernel
theorem dX6_seat_28 : decode cX6_seat 28 = .ok (.invokespecial 130, 3) := by decide +kernel
theorem dX6_seat_31 : decode cX6_seat 31 = .ok (.athrow, 1) := by decide +kernel
theorem dX6_seat_32 : decode cX6_seat 32 = .ok (.aload_n 0, 1) := by decide +kernel
theorem dX6_seat_33 : decode cX6_seat 33 = .ok (.iload_n 2, 1) := by decide +kernel
theorem dX6_seat_34 : decode cX6_seat 34 = .ok (.iconst 0, 1) := by decide +kernel
theorem dX6_seat_35 : decode cX6_seat 35 = .ok (.iconst 2, 1) := by decide +kernel
theorem dX6_seat_36 : decode cX6_seat 36 = .ok (.invokevirtual 68, 3) := by decide +kernel
theorem dX6_seat_39 : decode cX6_seat 39 = .ok (.aload_n 0, 1) := by decide +kernel
theorem dX6_seat_40 : decode cX6_seat 40 = .ok (.invokevirtual 131, 3) := by decide +kernel
theorem dX6_seat_43 : decode cX6_seat 43 = .ok (.aload_n 0, 1) := by decide +kernel
theorem dX6_seat_44 : decode cX6_seat 44 = .ok (.getfield 19, 3) := by decide +kernel
theorem dX6_seat_47 : decode cX6_seat 47 = .ok (.iload_n 1, 1) := by decide +kernel
theorem dX6_seat_48 : decode cX6_seat 48 = .ok (.invokevirtual 134, 3) := by decide +kernel
theorem dX6_seat_51 : decode cX6_seat 51 = .ok (.istore_n 3, 1) := by decide +kernel
theorem dX6_seat_52 : decode cX6_seat 52 = .ok (.aload_n 0, 1) := by decide +kernel
theorem dX6_seat_53 : decode cX6_seat 53 = .ok (.getfield 19, 3) := by decide +kernel
theorem dX6_seat_56 : decode cX6_seat 56 = .ok (.iload_n 1, 1) := by decide +kernel
theorem dX6_seat_57 : decode cX6_seat 57 = .ok (.iload_n 2, 1) := by decide +kernel
theorem dX6_seat_58 : decode cX6_seat 58 = .ok (.invokevirtual 138, 3) := by decide +kernel
theorem dX6_seat_61 : decode cX6_seat 61 = .ok (.iload_n 3, 1) := by decide +kernel
theorem dX6_seat_62 : decode cX6_seat 62 = .ok (.ireturn, 1) := by decide +kernel
theorem dX6_add_0 : decode cX6_add 0 = .ok (.aload_n 0, 1) := by decide +kernel
theorem dX6_add_1 : decode cX6_add 1 = .ok (.iload_n 1, 1) := by decide +kernel
theorem dX6_add_2 : decode cX6_add 2 = .ok (.invokevirtual 87, 3) := by decide +kernel
theorem dX6_add_5 : decode cX6_add 5 = .ok (.aload_n 0, 1) := by decide +kernel
theorem dX6_add_6 : decode cX6_add 6 = .ok (.getfield 35, 3) := by decide +kernel
theorem dX6_add_9 : decode cX6_add 9 = .ok (.getfield 142, 3) := by decide +kernel
theorem dX6_add_12 : decode cX6_add 12 = .ok (.bipush 6, 2) := by decide +kernel
theorem dX6_add_14 : decode cX6_add 14 = .ok (.if_icmp .lt 13, 3) := by decide +kernel
theorem dX6_add_17 : decode cX6_add 17 = .ok (.new 76, 3) := by decide +kernel
theorem dX6_add_20 : decode cX6_add 20 = .ok (.dup, 1) := by decide +kernel
theorem dX6_add_21 : decode cX6_add 21 = .ok (.ldc 145, 2) := by decide +kernel
theorem dX6_add_23 : decode cX6_add 23 = .ok (.invokespecial 80, 3) := by decide +kernel
theorem dX6_add_26 : decode cX6_add 26 = .ok (.athrow, 1) := by decide +kernel
theorem dX6_add_27 : decode cX6_add 27 = .ok (.aload_n 0, 1) := by decide +kernel
theorem dX6_add_28 : decode cX6_add 28 = .ok (.getfield 35, 3) := by decide +kernel
theorem dX6_add_31 : decode cX6_add 31 = .ok (.iload_n 1, 1) := by decide +kernel
theorem dX6_add_32 : decode cX6_add 32 = .ok (.aload_n 0, 1) := by decide +kernel
theorem dX6_add_33 : decode cX6_add 33 = .ok (.getfield 13, 3) := by decide +kernel
theorem dX6_add_36 : decode cX6_add 36 = .ok (.invokevirtual 147, 3) := by decide +kernel
theorem dX6_add_39 : decode cX6_add 39 = .ok (.aload_n 0, 1) := by decide +kernel
theorem dX6_add_40 : decode cX6_add 40 = .ok (.getfield 35, 3) := by decide +kernel
theorem dX6_add_43 : decode cX6_add 43 = .ok (.getfield 142, 3) := by decide +kernel
theorem dX6_add_46 : decode cX6_add 46 = .ok (.ireturn, 1) := by decide +kernel
theorem dX6_clear_0 : decode cX6_clear 0 = .ok (.aload_n 0, 1) := by decide +kernel
theorem dX6_clear_1 : decode cX6_clear 1 = .ok (.getfield 35, 3) := by decide +kernel
theorem dX6_clear_4 : decode cX6_clear 4 = .ok (.getfield 142, 3) := by decide +kernel
theorem dX6_clear_7 : decode cX6_clear 7 = .ok (.istore_n 1, 1) := by decide +kernel
theorem dX6_clear_8 : decode cX6_clear 8 = .ok (.aload_n 0, 1) := by decide +kernel
theorem dX6_clear_9 : decode cX6_clear 9 = .ok (.getfield 35, 3) := by decide +kernel
theorem dX6_clear_12 : decode cX6_clear 12 = .ok (.invokevirtual 151, 3) := by decide +kernel
theorem dX6_clear_15 : decode cX6_clear 15 = .ok (.iload_n 1, 1) := by decide +kernel
theorem dX6_clear_16 : decode cX6_clear 16 = .ok (.ireturn, 1) := by decide +kernel
theorem dX6_offer_0 : decode cX6_offer 0 = .ok (.aload_n 0, 1) := by decide +kernel
theorem dX6_offer_1 : decode cX6_offer 1 = .ok (.iload_n 1, 1) := by decide +kernel
theorem dX6_offer_2 : decode cX6_offer 2 = .ok (.invokevirtual 154, 3) := by decide +kernel
theorem dX6_offer_5 : decode cX6_offer 5 = .ok (.aload_n 0, 1) := by decide +kernel
theorem dX6_offer_6 : decode cX6_offer 6 = .ok (.getfield 19, 3) := by decide +kernel
theorem dX6_offer_9 : decode cX6_offer 9 = .ok (.invokevirtual 105, 3) := by decide +kernel
theorem dX6_offer_12 : decode cX6_offer 12 = .ok (.ifCond .ne 13, 3) := by decide +kernel
theorem dX6_offer_15 : decode cX6_offer 15 = .ok (.new 76, 3) := by decide +kernel
theorem dX6_offer_18 : decode cX6_offer 18 = .ok (.dup, 1) := by decide +kernel
theorem dX6_offer_19 : decode cX6_offer 19 = .ok (.ldc 157, 2) := by decide +kernel
theorem dX6_offer_21 : decode cX6_offer 21 = .ok (.invokespecial 80, 3) := by decide +kernel
theorem dX6_offer_24 : decode cX6_offer 24 = .ok (.athrow, 1) := by decide +kernel
theorem dX6_offer_25 : decode cX6_offer 25 = .ok (.aload_n 0, 1) := by decide +kernel
theorem dX6_offer_26 : decode cX6_offer 26 = .ok (.getfield 117, 3) := by decide +kernel
theorem dX6_offer_29 : decode cX6_offer 29 = .ok (.iconst 4, 1) := by decide +kernel
theorem dX6_offer_30 : decode cX6_offer 30 = .ok (.if_icmp .lt 13, 3) := by decide +kernel
theorem dX6_offer_33 : decode cX6_offer 33 = .ok (.new 76, 3) := by decide +kernel
theorem dX6_offer_36 : decode cX6_offer 36 = .ok (.dup, 1) := by decide +kernel
theorem dX6_offer_37 : decode cX6_offer 37 = .ok (.ldc 159, 2) := by decide +kernel
theorem dX6_offer_39 : decode cX6_offer 39 = .ok (.invokespecial 80, 3) := by decide +kernel
theorem dX6_offer_42 : decode cX6_offer 42 = .ok (.athrow, 1) := by decide +kernel
theorem dX6_offer_43 : decode cX6_offer 43 = .ok (.aload_n 0, 1) := by decide +kernel
theorem dX6_offer_44 : decode cX6_offer 44 = .ok (.getfield 28, 3) := by decide +kernel
theorem dX6_offer_47 : decode cX6_offer 47 = .ok (.aload_n 0, 1) := by decide +kernel
theorem dX6_offer_48 : decode cX6_offer 48 = .ok (.getfield 35, 3) := by decide +kernel
theorem dX6_offer_51 : decode cX6_offer 51 = .ok (.aload_n 0, 1) := by decide +kernel
theorem dX6_offer_52 : decode cX6_offer 52 = .ok (.getfield 19, 3) := by decide +kernel
theorem dX6_offer_55 : decode cX6_offer 55 = .ok (.getfield 108, 3) := by decide +kernel
theorem dX6_offer_58 : decode cX6_offer 58 = .ok (.iload_n 1, 1) := by decide +kernel
theorem dX6_offer_59 : decode cX6_offer 59 = .ok (.invokevirtual 161, 3) := by decide +kernel
theorem dX6_offer_62 : decode cX6_offer 62 = .ok (.istore_n 2, 1) := by decide +kernel
theorem dX6_offer_63 : decode cX6_offer 63 = .ok (.iload_n 2, 1) := by decide +kernel
theorem dX6_offer_64 : decode cX6_offer 64 = .ok (.ifCond .eq 30, 3) := by decide +kernel
theorem dX6_offer_67 : decode cX6_offer 67 = .ok (.aload_n 0, 1) := by decide +kernel
theorem dX6_offer_68 : decode cX6_offer 68 = .ok (.aload_n 0, 1) := by decide +kernel
theorem dX6_offer_69 : decode cX6_offer 69 = .ok (.getfield 28, 3) := by decide +kernel
theorem dX6_offer_72 : decode cX6_offer 72 = .ok (.iload_n 2, 1) := by decide +kernel
theorem dX6_offer_73 : decode cX6_offer 73 = .ok (.aload_n 0, 1) := by decide +kernel
theorem dX6_offer_74 : decode cX6_offer 74 = .ok (.getfield 35, 3) := by decide +kernel
theorem dX6_offer_77 : decode cX6_offer 77 = .ok (.aload_n 0, 1) := by decide +kernel
theorem dX6_offer_78 : decode cX6_offer 78 = .ok (.getfield 19, 3) := by decide +kernel
theorem dX6_offer_81 : decode cX6_offer 81 = .ok (.getfield 108, 3) := by decide +kernel
theorem dX6_offer_84 : decode cX6_offer 84 = .ok (.iload_n 1, 1) := by decide +kernel
theorem dX6_offer_85 : decode cX6_offer 85 = .ok (.invokevirtual 165, 3) := by decide +kernel
theorem dX6_offer_88 : decode cX6_offer 88 = .ok (.putfield 64, 3) := by decide +kernel
theorem dX6_offer_91 : decode cX6_offer 91 = .ok (.iload_n 2, 1) := by decide +kernel
theorem dX6_offer_92 : decode cX6_offer 92 = .ok (.ineg, 1) := by decide +kernel
theorem dX6_offer_93 : decode cX6_offer 93 = .ok (.ireturn, 1) := by decide +kernel
theorem dX6_offer_94 : decode cX6_offer 94 = .ok (.aload_n 0, 1) := by decide +kernel
theorem dX6_offer_95 : decode cX6_offer 95 = .ok (.getfield 53, 3) := by decide +kernel
theorem dX6_offer_98 : decode cX6_offer 98 = .ok (.aload_n 0, 1) := by decide +kernel
theorem dX6_offer_99 : decode cX6_offer 99 = .ok (.getfield 117, 3) := by decide +kernel
theorem dX6_offer_102 : decode cX6_offer 102 = .ok (.aaload, 1) := by decide +kernel
theorem dX6_offer_103 : decode cX6_offer 103 = .ok (.aload_n 0, 1) := by decide +kernel
theorem dX6_offer_104 : decode cX6_offer 104 = .ok (.getfield 35, 3) := by decide +kernel
theorem dX6_offer_107 : decode cX6_offer 107 = .ok (.aload_n 0, 1) := by decide +kernel
theorem dX6_offer_108 : decode cX6_offer 108 = .ok (.getfield 13, 3) := by decide +kernel
theorem dX6_offer_111 : decode cX6_offer 111 = .ok (.invokevirtual 169, 3) := by decide +kernel
theorem dX6_offer_114 : decode cX6_offer 114 = .ok (.aload_n 0, 1) := by decide +kernel
theorem dX6_offer_115 : decode cX6_offer 115 = .ok (.getfield 49, 3) := by decide +kernel
theorem dX6_offer_118 : decode cX6_offer 118 = .ok (.aload_n 0, 1) := by decide +kernel
theorem dX6_offer_119 : decode cX6_offer 119 = .ok (.getfield 117, 3) := by decide +kernel
theorem dX6_offer_122 : decode cX6_offer 122 = .ok (.iload_n 1, 1) := by decide +kernel
theorem dX6_offer_123 : decode cX6_offer 123 = .ok (.iastore, 1) := by decide +kernel
theorem dX6_offer_124 : decode cX6_offer 124 = .ok (.aload_n 0, 1) := by decide +kernel
theorem dX6_offer_125 : decode cX6_offer 125 = .ok (.dup, 1) := by decide +kernel
theorem dX6_offer_126 : decode cX6_offer 126 = .ok (.getfield 117, 3) := by decide +kernel
theorem dX6_offer_129 : decode cX6_offer 129 = .ok (.iconst 1, 1) := by decide +kernel
theorem dX6_offer_130 : decode cX6_offer 130 = .ok (.iadd, 1) := by decide +kernel
theorem dX6_offer_131 : decode cX6_offer 131 = .ok (.putfield 117, 3) := by decide +kernel
theorem dX6_offer_134 : decode cX6_offer 134 = .ok (.aload_n 0, 1) := by decide +kernel
theorem dX6_offer_135 : decode cX6_offer 135 = .ok (.getfield 35, 3) := by decide +kernel
theorem dX6_offer_138 : decode cX6_offer 138 = .ok (.invokevirtual 151, 3) := by decide +kernel
theorem dX6_offer_141 : decode cX6_offer 141 = .ok (.aload_n 0, 1) := by decide +kernel
theorem dX6_offer_142 : decode cX6_offer 142 = .ok (.getfield 117, 3) := by decide +kernel
theorem dX6_offer_145 : decode cX6_offer 145 = .ok (.iconst 1, 1) := by decide +kernel
theorem dX6_offer_146 : decode cX6_offer 146 = .ok (.isub, 1) := by decide +kernel
theorem dX6_offer_147 : decode cX6_offer 147 = .ok (.ireturn, 1) := by decide +kernel
theorem dX6_why_0 : decode cX6_why 0 = .ok (.aload_n 0, 1) := by decide +kernel
theorem dX6_why_1 : decode cX6_why 1 = .ok (.getfield 64, 3) := by decide +kernel
theorem dX6_why_4 : decode cX6_why 4 = .ok (.ireturn, 1) := by decide +kernel
theorem dX6_choose_0 : decode cX6_choose 0 = .ok (.iload_n 1, 1) := by decide +kernel
theorem dX6_choose_1 : decode cX6_choose 1 = .ok (.ifCond .lt 11, 3) := by decide +kernel
theorem dX6_choose_4 : decode cX6_choose 4 = .ok (.iload_n 1, 1) := by decide +kernel
theorem dX6_choose_5 : decode cX6_choose 5 = .ok (.aload_n 0, 1) := by decide +kernel
theorem dX6_choose_6 : decode cX6_choose 6 = .ok (.getfield 117, 3) := by decide +kernel
theorem dX6_choose_9 : decode cX6_choose 9 = .ok (.if_icmp .lt 13, 3) := by decide +kernel
theorem dX6_choose_12 : decode cX6_choose 12 = .ok (.new 126, 3) := by decide +kernel
theorem dX6_choose_15 : decode cX6_choose 15 = .ok (.dup, 1) := by decide +kernel
theorem dX6_choose_16 : decode cX6_choose 16 = .ok (.ldc 173, 2) := by decide +kernel
theorem dX6_choose_18 : decode cX6_choose 18 = .ok (.invokespecial 130, 3) := by decide +kernel
theorem dX6_choose_21 : decode cX6_choose 21 = .ok (.athrow, 1) := by decide +kernel
theorem dX6_choose_22 : decode cX6_choose 22 = .ok (.aload_n 0, 1) := by decide +kernel
theorem dX6_choose_23 : decode cX6_choose 23 = .ok (.getfield 19, 3) := by decide +kernel
theorem dX6_choose_26 : decode cX6_choose 26 = .ok (.aload_n 0, 1) := by decide +kernel
theorem dX6_choose_27 : decode cX6_choose 27 = .ok (.getfield 53, 3) := by decide +kernel
theorem dX6_choose_30 : decode cX6_choose 30 = .ok (.iload_n 1, 1) := by decide +kernel
theorem dX6_choose_31 : decode cX6_choose 31 = .ok (.aaload, 1) := by decide +kernel
theorem dX6_choose_32 : decode cX6_choose 32 = .ok (.aload_n 0, 1) := by decide +kernel
theorem dX6_choose_33 : decode cX6_choose 33 = .ok (.getfield 49, 3) := by decide +kernel
theorem dX6_choose_36 : decode cX6_choose 36 = .ok (.iload_n 1, 1) := by decide +kernel
theorem dX6_choose_37 : decode cX6_choose 37 = .ok (.iaload, 1) := by decide +kernel
theorem dX6_choose_38 : decode cX6_choose 38 = .ok (.aload_n 0, 1) := by decide +kernel
theorem dX6_choose_39 : decode cX6_choose 39 = .ok (.getfield 13, 3) := by decide +kernel
theorem dX6_choose_42 : decode cX6_choose 42 = .ok (.invokevirtual 175, 3) := by decide +kernel
theorem dX6_choose_45 : decode cX6_choose 45 = .ok (.aload_n 0, 1) := by decide +kernel
theorem dX6_choose_46 : decode cX6_choose 46 = .ok (.iconst 0, 1) := by decide +kernel
theorem dX6_choose_47 : decode cX6_choose 47 = .ok (.putfield 117, 3) := by decide +kernel
theorem dX6_choose_50 : decode cX6_choose 50 = .ok (.aload_n 0, 1) := by decide +kernel
theorem dX6_choose_51 : decode cX6_choose 51 = .ok (.getfield 19, 3) := by decide +kernel
theorem dX6_choose_54 : decode cX6_choose 54 = .ok (.getfield 108, 3) := by decide +kernel
theorem dX6_choose_57 : decode cX6_choose 57 = .ok (.iconst 1, 1) := by decide +kernel
theorem dX6_choose_58 : decode cX6_choose 58 = .ok (.isub, 1) := by decide +kernel
theorem dX6_choose_59 : decode cX6_choose 59 = .ok (.ireturn, 1) := by decide +kernel
theorem dX6_mend_0 : decode cX6_mend 0 = .ok (.aload_n 0, 1) := by decide +kernel
theorem dX6_mend_1 : decode cX6_mend 1 = .ok (.getfield 19, 3) := by decide +kernel
theorem dX6_mend_4 : decode cX6_mend 4 = .ok (.getfield 108, 3) := by decide +kernel
theorem dX6_mend_7 : decode cX6_mend 7 = .ok (.iconst 1, 1) := by decide +kernel
theorem dX6_mend_8 : decode cX6_mend 8 = .ok (.isub, 1) := by decide +kernel
theorem dX6_mend_9 : decode cX6_mend 9 = .ok (.istore_n 3, 1) := by decide +kernel
theorem dX6_mend_10 : decode cX6_mend 10 = .ok (.aload_n 0, 1) := by decide +kernel
theorem dX6_mend_11 : decode cX6_mend 11 = .ok (.iload_n 3, 1) := by decide +kernel
theorem dX6_mend_12 : decode cX6_mend 12 = .ok (.invokevirtual 179, 3) := by decide +kernel
theorem dX6_mend_15 : decode cX6_mend 15 = .ok (.aload_n 0, 1) := by decide +kernel
theorem dX6_mend_16 : decode cX6_mend 16 = .ok (.iload_n 3, 1) := by decide +kernel
theorem dX6_mend_17 : decode cX6_mend 17 = .ok (.iload_n 1, 1) := by decide +kernel
theorem dX6_mend_18 : decode cX6_mend 18 = .ok (.invokevirtual 182, 3) := by decide +kernel
theorem dX6_mend_21 : decode cX6_mend 21 = .ok (.aload_n 0, 1) := by decide +kernel
theorem dX6_mend_22 : decode cX6_mend 22 = .ok (.iload_n 2, 1) := by decide +kernel
theorem dX6_mend_23 : decode cX6_mend 23 = .ok (.invokevirtual 87, 3) := by decide +kernel
theorem dX6_mend_26 : decode cX6_mend 26 = .ok (.aload_n 0, 1) := by decide +kernel
theorem dX6_mend_27 : decode cX6_mend 27 = .ok (.invokevirtual 131, 3) := by decide +kernel
theorem dX6_mend_30 : decode cX6_mend 30 = .ok (.aload_n 0, 1) := by decide +kernel
theorem dX6_mend_31 : decode cX6_mend 31 = .ok (.getfield 39, 3) := by decide +kernel
theorem dX6_mend_34 : decode cX6_mend 34 = .ok (.aload_n 0, 1) := by decide +kernel
theorem dX6_mend_35 : decode cX6_mend 35 = .ok (.getfield 19, 3) := by decide +kernel
theorem dX6_mend_38 : decode cX6_mend 38 = .ok (.getfield 185, 3) := by decide +kernel
theorem dX6_mend_41 : decode cX6_mend 41 = .ok (.iload_n 3, 1) := by decide +kernel
theorem dX6_mend_42 : decode cX6_mend 42 = .ok (.aaload, 1) := by decide +kernel
theorem dX6_mend_43 : decode cX6_mend 43 = .ok (.iload_n 1, 1) := by decide +kernel
theorem dX6_mend_44 : decode cX6_mend 44 = .ok (.iload_n 2, 1) := by decide +kernel
theorem dX6_mend_45 : decode cX6_mend 45 = .ok (.aload_n 0, 1) := by decide +kernel
theorem dX6_mend_46 : decode cX6_mend 46 = .ok (.getfield 13, 3) := by decide +kernel
theorem dX6_mend_49 : decode cX6_mend 49 = .ok (.invokevirtual 188, 3) := by decide +kernel
theorem dX6_mend_52 : decode cX6_mend 52 = .ok (.aload_n 0, 1) := by decide +kernel
theorem dX6_mend_53 : decode cX6_mend 53 = .ok (.getfield 28, 3) := by decide +kernel
theorem dX6_mend_56 : decode cX6_mend 56 = .ok (.aload_n 0, 1) := by decide +kernel
theorem dX6_mend_57 : decode cX6_mend 57 = .ok (.getfield 39, 3) := by decide +kernel
theorem dX6_mend_60 : decode cX6_mend 60 = .ok (.iload_n 3, 1) := by decide +kernel
theorem dX6_mend_61 : decode cX6_mend 61 = .ok (.iconst (-1), 1) := by decide +kernel
theorem dX6_mend_62 : decode cX6_mend 62 = .ok (.invokevirtual 161, 3) := by decide +kernel
theorem dX6_mend_65 : decode cX6_mend 65 = .ok (.istore 4, 2) := by decide +kernel
theorem dX6_mend_67 : decode cX6_mend 67 = .ok (.iload 4, 2) := by decide +kernel
theorem dX6_mend_69 : decode cX6_mend 69 = .ok (.ifCond .eq 26, 3) := by decide +kernel
theorem dX6_mend_72 : decode cX6_mend 72 = .ok (.aload_n 0, 1) := by decide +kernel
theorem dX6_mend_73 : decode cX6_mend 73 = .ok (.aload_n 0, 1) := by decide +kernel
theorem dX6_mend_74 : decode cX6_mend 74 = .ok (.getfield 28, 3) := by decide +kernel
theorem dX6_mend_77 : decode cX6_mend 77 = .ok (.iload 4, 2) := by decide +kernel
theorem dX6_mend_79 : decode cX6_mend 79 = .ok (.aload_n 0, 1) := by decide +kernel
theorem dX6_mend_80 : decode cX6_mend 80 = .ok (.getfield 39, 3) := by decide +kernel
theorem dX6_mend_83 : decode cX6_mend 83 = .ok (.iload_n 3, 1) := by decide +kernel
theorem dX6_mend_84 : decode cX6_mend 84 = .ok (.iconst (-1), 1) := by decide +kernel
theorem dX6_mend_85 : decode cX6_mend 85 = .ok (.invokevirtual 165, 3) := by decide +kernel
theorem dX6_mend_88 : decode cX6_mend 88 = .ok (.putfield 64, 3) := by decide +kernel
theorem dX6_mend_91 : decode cX6_mend 91 = .ok (.iload 4, 2) := by decide +kernel
theorem dX6_mend_93 : decode cX6_mend 93 = .ok (.ineg, 1) := by decide +kernel
theorem dX6_mend_94 : decode cX6_mend 94 = .ok (.ireturn, 1) := by decide +kernel
theorem dX6_mend_95 : decode cX6_mend 95 = .ok (.aload_n 0, 1) := by decide +kernel
theorem dX6_mend_96 : decode cX6_mend 96 = .ok (.getfield 19, 3) := by decide +kernel
theorem dX6_mend_99 : decode cX6_mend 99 = .ok (.aload_n 0, 1) := by decide +kernel
theorem dX6_mend_100 : decode cX6_mend 100 = .ok (.getfield 39, 3) := by decide +kernel
theorem dX6_mend_103 : decode cX6_mend 103 = .ok (.aload_n 0, 1) := by decide +kernel
theorem dX6_mend_104 : decode cX6_mend 104 = .ok (.getfield 13, 3) := by decide +kernel
theorem dX6_mend_107 : decode cX6_mend 107 = .ok (.invokevirtual 192, 3) := by decide +kernel
theorem dX6_mend_110 : decode cX6_mend 110 = .ok (.iconst 0, 1) := by decide +kernel
theorem dX6_mend_111 : decode cX6_mend 111 = .ok (.ireturn, 1) := by decide +kernel
theorem dX6_give_0 : decode cX6_give 0 = .ok (.iload_n 1, 1) := by decide +kernel
theorem dX6_give_1 : decode cX6_give 1 = .ok (.ifCond .lt 8, 3) := by decide +kernel
theorem dX6_give_4 : decode cX6_give 4 = .ok (.iload_n 1, 1) := by decide +kernel
theorem dX6_give_5 : decode cX6_give 5 = .ok (.iconst 4, 1) := by decide +kernel
theorem dX6_give_6 : decode cX6_give 6 = .ok (.if_icmp .lt 13, 3) := by decide +kernel
theorem dX6_give_9 : decode cX6_give 9 = .ok (.new 126, 3) := by decide +kernel
theorem dX6_give_12 : decode cX6_give 12 = .ok (.dup, 1) := by decide +kernel
theorem dX6_give_13 : decode cX6_give 13 = .ok (.ldc 195, 2) := by decide +kernel
theorem dX6_give_15 : decode cX6_give 15 = .ok (.invokespecial 130, 3) := by decide +kernel
theorem dX6_give_18 : decode cX6_give 18 = .ok (.athrow, 1) := by decide +kernel
theorem dX6_give_19 : decode cX6_give 19 = .ok (.aload_n 0, 1) := by decide +kernel
theorem dX6_give_20 : decode cX6_give 20 = .ok (.iload_n 2, 1) := by decide +kernel
theorem dX6_give_21 : decode cX6_give 21 = .ok (.invokevirtual 179, 3) := by decide +kernel
theorem dX6_give_24 : decode cX6_give 24 = .ok (.aload_n 0, 1) := by decide +kernel
theorem dX6_give_25 : decode cX6_give 25 = .ok (.iload_n 3, 1) := by decide +kernel
theorem dX6_give_26 : decode cX6_give 26 = .ok (.iconst 0, 1) := by decide +kernel
theorem dX6_give_27 : decode cX6_give 27 = .ok (.bipush 10, 2) := by decide +kernel
theorem dX6_give_29 : decode cX6_give 29 = .ok (.invokevirtual 68, 3) := by decide +kernel
theorem dX6_give_32 : decode cX6_give 32 = .ok (.aload_n 0, 1) := by decide +kernel
theorem dX6_give_33 : decode cX6_give 33 = .ok (.getfield 19, 3) := by decide +kernel
theorem dX6_give_36 : decode cX6_give 36 = .ok (.getfield 197, 3) := by decide +kernel
theorem dX6_give_39 : decode cX6_give 39 = .ok (.iload_n 1, 1) := by decide +kernel
theorem dX6_give_40 : decode cX6_give 40 = .ok (.aaload, 1) := by decide +kernel
theorem dX6_give_41 : decode cX6_give 41 = .ok (.iload_n 2, 1) := by decide +kernel
theorem dX6_give_42 : decode cX6_give 42 = .ok (.iaload, 1) := by decide +kernel
theorem dX6_give_43 : decode cX6_give 43 = .ok (.istore 4, 2) := by decide +kernel
theorem dX6_give_45 : decode cX6_give 45 = .ok (.aload_n 0, 1) := by decide +kernel
theorem dX6_give_46 : decode cX6_give 46 = .ok (.getfield 19, 3) := by decide +kernel
theorem dX6_give_49 : decode cX6_give 49 = .ok (.getfield 197, 3) := by decide +kernel
theorem dX6_give_52 : decode cX6_give 52 = .ok (.iload_n 1, 1) := by decide +kernel
theorem dX6_give_53 : decode cX6_give 53 = .ok (.aaload, 1) := by decide +kernel
theorem dX6_give_54 : decode cX6_give 54 = .ok (.iload_n 2, 1) := by decide +kernel
theorem dX6_give_55 : decode cX6_give 55 = .ok (.iload_n 3, 1) := by decide +kernel
theorem dX6_give_56 : decode cX6_give 56 = .ok (.iastore, 1) := by decide +kernel
theorem dX6_give_57 : decode cX6_give 57 = .ok (.iload 4, 2) := by decide +kernel
theorem dX6_give_59 : decode cX6_give 59 = .ok (.ireturn, 1) := by decide +kernel
theorem dX6_copy_0 : decode cX6_copy 0 = .ok (.aload_n 0, 1) := by decide +kernel
theorem dX6_copy_1 : decode cX6_copy 1 = .ok (.iload_n 1, 1) := by decide +kernel
theorem dX6_copy_2 : decode cX6_copy 2 = .ok (.invokevirtual 201, 3) := by decide +kernel
theorem dX6_copy_5 : decode cX6_copy 5 = .ok (.aload_n 0, 1) := by decide +kernel
theorem dX6_copy_6 : decode cX6_copy 6 = .ok (.invokevirtual 204, 3) := by decide +kernel
theorem dX6_copy_9 : decode cX6_copy 9 = .ok (.aload_n 0, 1) := by decide +kernel
theorem dX6_copy_10 : decode cX6_copy 10 = .ok (.getfield 120, 3) := by decide +kernel
theorem dX6_copy_13 : decode cX6_copy 13 = .ok (.bipush 8, 2) := by decide +kernel
theorem dX6_copy_15 : decode cX6_copy 15 = .ok (.if_icmp .lt 13, 3) := by decide +kernel
theorem dX6_copy_18 : decode cX6_copy 18 = .ok (.new 76, 3) := by decide +kernel
theorem dX6_copy_21 : decode cX6_copy 21 = .ok (.dup, 1) := by decide +kernel
theorem dX6_copy_22 : decode cX6_copy 22 = .ok (.ldc 207, 2) := by decide +kernel
theorem dX6_copy_24 : decode cX6_copy 24 = .ok (.invokespecial 80, 3) := by decide +kernel
theorem dX6_copy_27 : decode cX6_copy 27 = .ok (.athrow, 1) := by decide +kernel
theorem dX6_copy_28 : decode cX6_copy 28 = .ok (.aload_n 0, 1) := by decide +kernel
theorem dX6_copy_29 : decode cX6_copy 29 = .ok (.aload_n 0, 1) := by decide +kernel
theorem dX6_copy_30 : decode cX6_copy 30 = .ok (.getfield 59, 3) := by decide +kernel
theorem dX6_copy_33 : decode cX6_copy 33 = .ok (.aload_n 0, 1) := by decide +kernel
theorem dX6_copy_34 : decode cX6_copy 34 = .ok (.getfield 120, 3) := by decide +kernel
theorem dX6_copy_37 : decode cX6_copy 37 = .ok (.aaload, 1) := by decide +kernel
theorem dX6_copy_38 : decode cX6_copy 38 = .ok (.iload_n 1, 1) := by decide +kernel
theorem dX6_copy_39 : decode cX6_copy 39 = .ok (.invokevirtual 209, 3) := by decide +kernel
theorem dX6_copy_42 : decode cX6_copy 42 = .ok (.aload_n 0, 1) := by decide +kernel
theorem dX6_copy_43 : decode cX6_copy 43 = .ok (.dup, 1) := by decide +kernel
theorem dX6_copy_44 : decode cX6_copy 44 = .ok (.getfield 120, 3) := by decide +kernel
theorem dX6_copy_47 : decode cX6_copy 47 = .ok (.iconst 1, 1) := by decide +kernel
theorem dX6_copy_48 : decode cX6_copy 48 = .ok (.iadd, 1) := by decide +kernel
theorem dX6_copy_49 : decode cX6_copy 49 = .ok (.putfield 120, 3) := by decide +kernel
theorem dX6_copy_52 : decode cX6_copy 52 = .ok (.aload_n 0, 1) := by decide +kernel
theorem dX6_copy_53 : decode cX6_copy 53 = .ok (.getfield 120, 3) := by decide +kernel
theorem dX6_copy_56 : decode cX6_copy 56 = .ok (.iconst 1, 1) := by decide +kernel
theorem dX6_copy_57 : decode cX6_copy 57 = .ok (.isub, 1) := by decide +kernel
theorem dX6_copy_58 : decode cX6_copy 58 = .ok (.ireturn, 1) := by decide +kernel
theorem dX6_write_0 : decode cX6_write 0 = .ok (.aload_n 0, 1) := by decide +kernel
theorem dX6_write_1 : decode cX6_write 1 = .ok (.iload_n 1, 1) := by decide +kernel
theorem dX6_write_2 : decode cX6_write 2 = .ok (.invokevirtual 213, 3) := by decide +kernel
theorem dX6_write_5 : decode cX6_write 5 = .ok (.aload_n 0, 1) := by decide +kernel
theorem dX6_write_6 : decode cX6_write 6 = .ok (.iload 4, 2) := by decide +kernel
theorem dX6_write_8 : decode cX6_write 8 = .ok (.invokevirtual 87, 3) := by decide +kernel
theorem dX6_write_11 : decode cX6_write 11 = .ok (.aload_n 0, 1) := by decide +kernel
theorem dX6_write_12 : decode cX6_write 12 = .ok (.iload_n 1, 1) := by decide +kernel
theorem dX6_write_13 : decode cX6_write 13 = .ok (.iload_n 2, 1) := by decide +kernel
theorem dX6_write_14 : decode cX6_write 14 = .ok (.iload_n 3, 1) := by decide +kernel
theorem dX6_write_15 : decode cX6_write 15 = .ok (.invokevirtual 216, 3) := by decide +kernel
theorem dX6_write_18 : decode cX6_write 18 = .ok (.istore 5, 2) := by decide +kernel
theorem dX6_write_20 : decode cX6_write 20 = .ok (.iload 5, 2) := by decide +kernel
theorem dX6_write_22 : decode cX6_write 22 = .ok (.iconst (-1), 1) := by decide +kernel
theorem dX6_write_23 : decode cX6_write 23 = .ok (.if_icmp .ne 13, 3) := by decide +kernel
theorem dX6_write_26 : decode cX6_write 26 = .ok (.new 126, 3) := by decide +kernel
theorem dX6_write_29 : decode cX6_write 29 = .ok (.dup, 1) := by decide +kernel
theorem dX6_write_30 : decode cX6_write 30 = .ok (.ldc 219, 2) := by decide +kernel
theorem dX6_write_32 : decode cX6_write 32 = .ok (.invokespecial 130, 3) := by decide +kernel
theorem dX6_write_35 : decode cX6_write 35 = .ok (.athrow, 1) := by decide +kernel
theorem dX6_write_36 : decode cX6_write 36 = .ok (.aload_n 0, 1) := by decide +kernel
theorem dX6_write_37 : decode cX6_write 37 = .ok (.getfield 59, 3) := by decide +kernel
theorem dX6_write_40 : decode cX6_write 40 = .ok (.iload_n 1, 1) := by decide +kernel
theorem dX6_write_41 : decode cX6_write 41 = .ok (.aaload, 1) := by decide +kernel
theorem dX6_write_42 : decode cX6_write 42 = .ok (.iload_n 2, 1) := by decide +kernel
theorem dX6_write_43 : decode cX6_write 43 = .ok (.iload_n 3, 1) := by decide +kernel
theorem dX6_write_44 : decode cX6_write 44 = .ok (.iload 4, 2) := by decide +kernel
theorem dX6_write_46 : decode cX6_write 46 = .ok (.invokevirtual 221, 3) := by decide +kernel
theorem dX6_write_49 : decode cX6_write 49 = .ok (.iload 5, 2) := by decide +kernel
theorem dX6_write_51 : decode cX6_write 51 = .ok (.ireturn, 1) := by decide +kernel
theorem dX6_hide_0 : decode cX6_hide 0 = .ok (.aload_n 0, 1) := by decide +kernel
theorem dX6_hide_1 : decode cX6_hide 1 = .ok (.iload_n 1, 1) := by decide +kernel
theorem dX6_hide_2 : decode cX6_hide 2 = .ok (.invokevirtual 179, 3) := by decide +kernel
theorem dX6_hide_5 : decode cX6_hide 5 = .ok (.aload_n 0, 1) := by decide +kernel
theorem dX6_hide_6 : decode cX6_hide 6 = .ok (.getfield 19, 3) := by decide +kernel
theorem dX6_hide_9 : decode cX6_hide 9 = .ok (.getfield 223, 3) := by decide +kernel
theorem dX6_hide_12 : decode cX6_hide 12 = .ok (.iload_n 1, 1) := by decide +kernel
theorem dX6_hide_13 : decode cX6_hide 13 = .ok (.baload, 1) := by decide +kernel
theorem dX6_hide_14 : decode cX6_hide 14 = .ok (.istore_n 3, 1) := by decide +kernel
theorem dX6_hide_15 : decode cX6_hide 15 = .ok (.aload_n 0, 1) := by decide +kernel
theorem dX6_hide_16 : decode cX6_hide 16 = .ok (.getfield 19, 3) := by decide +kernel
theorem dX6_hide_19 : decode cX6_hide 19 = .ok (.getfield 223, 3) := by decide +kernel
theorem dX6_hide_22 : decode cX6_hide 22 = .ok (.iload_n 1, 1) := by decide +kernel
theorem dX6_hide_23 : decode cX6_hide 23 = .ok (.iload_n 2, 1) := by decide +kernel
theorem dX6_hide_24 : decode cX6_hide 24 = .ok (.bastore, 1) := by decide +kernel
theorem dX6_hide_25 : decode cX6_hide 25 = .ok (.iload_n 3, 1) := by decide +kernel
theorem dX6_hide_26 : decode cX6_hide 26 = .ok (.ireturn, 1) := by decide +kernel
theorem dX6_links_0 : decode cX6_links 0 = .ok (.aload_n 0, 1) := by decide +kernel
theorem dX6_links_1 : decode cX6_links 1 = .ok (.getfield 19, 3) := by decide +kernel
theorem dX6_links_4 : decode cX6_links 4 = .ok (.getfield 108, 3) := by decide +kernel
theorem dX6_links_7 : decode cX6_links 7 = .ok (.ireturn, 1) := by decide +kernel
theorem dX6_offers_0 : decode cX6_offers 0 = .ok (.aload_n 0, 1) := by decide +kernel
theorem dX6_offers_1 : decode cX6_offers 1 = .ok (.getfield 117, 3) := by decide +kernel
theorem dX6_offers_4 : decode cX6_offers 4 = .ok (.ireturn, 1) := by decide +kernel
theorem dX6_ofLink_0 : decode cX6_ofLink 0 = .ok (.aload_n 0, 1) := by decide +kernel
theorem dX6_ofLink_1 : decode cX6_ofLink 1 = .ok (.iload_n 1, 1) := by decide +kernel
theorem dX6_ofLink_2 : decode cX6_ofLink 2 = .ok (.invokevirtual 179, 3) := by decide +kernel
theorem dX6_ofLink_5 : decode cX6_ofLink 5 = .ok (.aload_n 0, 1) := by decide +kernel
theorem dX6_ofLink_6 : decode cX6_ofLink 6 = .ok (.iload_n 2, 1) := by decide +kernel
theorem dX6_ofLink_7 : decode cX6_ofLink 7 = .ok (.iconst 0, 1) := by decide +kernel
theorem dX6_ofLink_8 : decode cX6_ofLink 8 = .ok (.iconst 5, 1) := by decide +kernel
theorem dX6_ofLink_9 : decode cX6_ofLink 9 = .ok (.invokevirtual 68, 3) := by decide +kernel
theorem dX6_ofLink_12 : decode cX6_ofLink 12 = .ok (.iload_n 2, 1) := by decide +kernel
theorem dX6_ofLink_13 : decode cX6_ofLink 13 = .ok (.tableswitch 100 0 4 #[35, 60, 69, 78, 91], 35) := by decide +kernel
theorem dX6_ofLink_48 : decode cX6_ofLink 48 = .ok (.aload_n 0, 1) := by decide +kernel
theorem dX6_ofLink_49 : decode cX6_ofLink 49 = .ok (.getfield 19, 3) := by decide +kernel
theorem dX6_ofLink_52 : decode cX6_ofLink 52 = .ok (.getfield 223, 3) := by decide +kernel
theorem dX6_ofLink_55 : decode cX6_ofLink 55 = .ok (.iload_n 1, 1) := by decide +kernel
theorem dX6_ofLink_56 : decode cX6_ofLink 56 = .ok (.baload, 1) := by decide +kernel
theorem dX6_ofLink_57 : decode cX6_ofLink 57 = .ok (.ifCond .eq 7, 3) := by decide +kernel
theorem dX6_ofLink_60 : decode cX6_ofLink 60 = .ok (.iconst (-1), 1) := by decide +kernel
theorem dX6_ofLink_61 : decode cX6_ofLink 61 = .ok (.goto 11, 3) := by decide +kernel
theorem dX6_ofLink_64 : decode cX6_ofLink 64 = .ok (.aload_n 0, 1) := by decide +kernel
theorem dX6_ofLink_65 : decode cX6_ofLink 65 = .ok (.getfield 19, 3) := by decide +kernel
theorem dX6_ofLink_68 : decode cX6_ofLink 68 = .ok (.iload_n 1, 1) := by decide +kernel
theorem dX6_ofLink_69 : decode cX6_ofLink 69 = .ok (.invokevirtual 227, 3) := by decide +kernel
theorem dX6_ofLink_72 : decode cX6_ofLink 72 = .ok (.ireturn, 1) := by decide +kernel
theorem dX6_ofLink_73 : decode cX6_ofLink 73 = .ok (.aload_n 0, 1) := by decide +kernel
theorem dX6_ofLink_74 : decode cX6_ofLink 74 = .ok (.getfield 19, 3) := by decide +kernel
theorem dX6_ofLink_77 : decode cX6_ofLink 77 = .ok (.iload_n 1, 1) := by decide +kernel
theorem dX6_ofLink_78 : decode cX6_ofLink 78 = .ok (.invokevirtual 230, 3) := by decide +kernel
theorem dX6_ofLink_81 : decode cX6_ofLink 81 = .ok (.ireturn, 1) := by decide +kernel
theorem dX6_ofLink_82 : decode cX6_ofLink 82 = .ok (.aload_n 0, 1) := by decide +kernel
theorem dX6_ofLink_83 : decode cX6_ofLink 83 = .ok (.getfield 19, 3) := by decide +kernel
theorem dX6_ofLink_86 : decode cX6_ofLink 86 = .ok (.iload_n 1, 1) := by decide +kernel
theorem dX6_ofLink_87 : decode cX6_ofLink 87 = .ok (.invokevirtual 233, 3) := by decide +kernel
theorem dX6_ofLink_90 : decode cX6_ofLink 90 = .ok (.ireturn, 1) := by decide +kernel
theorem dX6_ofLink_91 : decode cX6_ofLink 91 = .ok (.aload_n 0, 1) := by decide +kernel
theorem dX6_ofLink_92 : decode cX6_ofLink 92 = .ok (.getfield 19, 3) := by decide +kernel
theorem dX6_ofLink_95 : decode cX6_ofLink 95 = .ok (.getfield 185, 3) := by decide +kernel
theorem dX6_ofLink_98 : decode cX6_ofLink 98 = .ok (.iload_n 1, 1) := by decide +kernel
theorem dX6_ofLink_99 : decode cX6_ofLink 99 = .ok (.aaload, 1) := by decide +kernel
theorem dX6_ofLink_100 : decode cX6_ofLink 100 = .ok (.getfield 142, 3) := by decide +kernel
theorem dX6_ofLink_103 : decode cX6_ofLink 103 = .ok (.ireturn, 1) := by decide +kernel
theorem dX6_ofLink_104 : decode cX6_ofLink 104 = .ok (.aload_n 0, 1) := by decide +kernel
theorem dX6_ofLink_105 : decode cX6_ofLink 105 = .ok (.getfield 19, 3) := by decide +kernel
theorem dX6_ofLink_108 : decode cX6_ofLink 108 = .ok (.iload_n 1, 1) := by decide +kernel
theorem dX6_ofLink_109 : decode cX6_ofLink 109 = .ok (.invokevirtual 236, 3) := by decide +kernel
theorem dX6_ofLink_112 : decode cX6_ofLink 112 = .ok (.ireturn, 1) := by decide +kernel
theorem dX6_ofLink_113 : decode cX6_ofLink 113 = .ok (.aload_n 0, 1) := by decide +kernel
theorem dX6_ofLink_114 : decode cX6_ofLink 114 = .ok (.getfield 19, 3) := by decide +kernel
theorem dX6_ofLink_117 : decode cX6_ofLink 117 = .ok (.getfield 239, 3) := by decide +kernel
theorem dX6_ofLink_120 : decode cX6_ofLink 120 = .ok (.iload_n 1, 1) := by decide +kernel
theorem dX6_ofLink_121 : decode cX6_ofLink 121 = .ok (.baload, 1) := by decide +kernel
theorem dX6_ofLink_122 : decode cX6_ofLink 122 = .ok (.ifCond .eq 7, 3) := by decide +kernel
theorem dX6_ofLink_125 : decode cX6_ofLink 125 = .ok (.iconst 1, 1) := by decide +kernel
theorem dX6_ofLink_126 : decode cX6_ofLink 126 = .ok (.goto 4, 3) := by decide +kernel
theorem dX6_ofLink_129 : decode cX6_ofLink 129 = .ok (.iconst 0, 1) := by decide +kernel
theorem dX6_ofLink_130 : decode cX6_ofLink 130 = .ok (.ireturn, 1) := by decide +kernel
theorem dX6_wordAt_0 : decode cX6_wordAt 0 = .ok (.aload_n 0, 1) := by decide +kernel
theorem dX6_wordAt_1 : decode cX6_wordAt 1 = .ok (.iload_n 1, 1) := by decide +kernel
theorem dX6_wordAt_2 : decode cX6_wordAt 2 = .ok (.invokevirtual 179, 3) := by decide +kernel
theorem dX6_wordAt_5 : decode cX6_wordAt 5 = .ok (.aload_n 0, 1) := by decide +kernel
theorem dX6_wordAt_6 : decode cX6_wordAt 6 = .ok (.iload_n 1, 1) := by decide +kernel
theorem dX6_wordAt_7 : decode cX6_wordAt 7 = .ok (.iload_n 2, 1) := by decide +kernel
theorem dX6_wordAt_8 : decode cX6_wordAt 8 = .ok (.invokevirtual 182, 3) := by decide +kernel
theorem dX6_wordAt_11 : decode cX6_wordAt 11 = .ok (.aload_n 0, 1) := by decide +kernel
theorem dX6_wordAt_12 : decode cX6_wordAt 12 = .ok (.getfield 19, 3) := by decide +kernel
theorem dX6_wordAt_15 : decode cX6_wordAt 15 = .ok (.iload_n 1, 1) := by decide +kernel
theorem dX6_wordAt_16 : decode cX6_wordAt 16 = .ok (.iload_n 2, 1) := by decide +kernel
theorem dX6_wordAt_17 : decode cX6_wordAt 17 = .ok (.invokevirtual 242, 3) := by decide +kernel
theorem dX6_wordAt_20 : decode cX6_wordAt 20 = .ok (.ireturn, 1) := by decide +kernel
theorem dX6_faultAnew_0 : decode cX6_faultAnew 0 = .ok (.aload_n 0, 1) := by decide +kernel
theorem dX6_faultAnew_1 : decode cX6_faultAnew 1 = .ok (.iload_n 1, 1) := by decide +kernel
theorem dX6_faultAnew_2 : decode cX6_faultAnew 2 = .ok (.invokevirtual 179, 3) := by decide +kernel
theorem dX6_faultAnew_5 : decode cX6_faultAnew 5 = .ok (.aload_n 0, 1) := by decide +kernel
theorem dX6_faultAnew_6 : decode cX6_faultAnew 6 = .ok (.getfield 28, 3) := by decide +kernel
theorem dX6_faultAnew_9 : decode cX6_faultAnew 9 = .ok (.aload_n 0, 1) := by decide +kernel
theorem dX6_faultAnew_10 : decode cX6_faultAnew 10 = .ok (.getfield 19, 3) := by decide +kernel
theorem dX6_faultAnew_13 : decode cX6_faultAnew 13 = .ok (.getfield 185, 3) := by decide +kernel
theorem dX6_faultAnew_16 : decode cX6_faultAnew 16 = .ok (.iload_n 1, 1) := by decide +kernel
theorem dX6_faultAnew_17 : decode cX6_faultAnew 17 = .ok (.aaload, 1) := by decide +kernel
theorem dX6_faultAnew_18 : decode cX6_faultAnew 18 = .ok (.iload_n 1, 1) := by decide +kernel
theorem dX6_faultAnew_19 : decode cX6_faultAnew 19 = .ok (.aload_n 0, 1) := by decide +kernel
theorem dX6_faultAnew_20 : decode cX6_faultAnew 20 = .ok (.getfield 19, 3) := by decide +kernel
theorem dX6_faultAnew_23 : decode cX6_faultAnew 23 = .ok (.iload_n 1, 1) := by decide +kernel
theorem dX6_faultAnew_24 : decode cX6_faultAnew 24 = .ok (.invokevirtual 227, 3) := by decide +kernel
theorem dX6_faultAnew_27 : decode cX6_faultAnew 27 = .ok (.invokevirtual 161, 3) := by decide +kernel
theorem dX6_faultAnew_30 : decode cX6_faultAnew 30 = .ok (.ireturn, 1) := by decide +kernel
theorem dX6_chances_0 : decode cX6_chances 0 = .ok (.aload_n 0, 1) := by decide +kernel
theorem dX6_chances_1 : decode cX6_chances 1 = .ok (.iload_n 1, 1) := by decide +kernel
theorem dX6_chances_2 : decode cX6_chances 2 = .ok (.invokevirtual 154, 3) := by decide +kernel
theorem dX6_chances_5 : decode cX6_chances 5 = .ok (.aload_n 0, 1) := by decide +kernel
theorem dX6_chances_6 : decode cX6_chances 6 = .ok (.getfield 19, 3) := by decide +kernel
theorem dX6_chances_9 : decode cX6_chances 9 = .ok (.invokevirtual 105, 3) := by decide +kernel
theorem dX6_chances_12 : decode cX6_chances 12 = .ok (.ifCond .ne 5, 3) := by decide +kernel
theorem dX6_chances_15 : decode cX6_chances 15 = .ok (.iconst 0, 1) := by decide +kernel
theorem dX6_chances_16 : decode cX6_chances 16 = .ok (.ireturn, 1) := by decide +kernel
theorem dX6_chances_17 : decode cX6_chances 17 = .ok (.iconst 0, 1) := by decide +kernel
theorem dX6_chances_18 : decode cX6_chances 18 = .ok (.istore_n 2, 1) := by decide +kernel
theorem dX6_chances_19 : decode cX6_chances 19 = .ok (.iconst 0, 1) := by decide +kernel
theorem dX6_chances_20 : decode cX6_chances 20 = .ok (.istore_n 3, 1) := by decide +kernel
theorem dX6_chances_21 : decode cX6_chances 21 = .ok (.iload_n 3, 1) := by decide +kernel
theorem dX6_chances_22 : decode cX6_chances 22 = .ok (.aload_n 0, 1) := by decide +kernel
theorem dX6_chances_23 : decode cX6_chances 23 = .ok (.getfield 13, 3) := by decide +kernel
theorem dX6_chances_26 : decode cX6_chances 26 = .ok (.getfield 246, 3) := by decide +kernel
theorem dX6_chances_29 : decode cX6_chances 29 = .ok (.if_icmp .ge 51, 3) := by decide +kernel
theorem dX6_chances_32 : decode cX6_chances 32 = .ok (.iload_n 2, 1) := by decide +kernel
theorem dX6_chances_33 : decode cX6_chances 33 = .ok (.aload_n 0, 1) := by decide +kernel
theorem dX6_chances_34 : decode cX6_chances 34 = .ok (.iload_n 3, 1) := by decide +kernel
theorem dX6_chances_35 : decode cX6_chances 35 = .ok (.iconst (-1), 1) := by decide +kernel
theorem dX6_chances_36 : decode cX6_chances 36 = .ok (.iload_n 1, 1) := by decide +kernel
theorem dX6_chances_37 : decode cX6_chances 37 = .ok (.invokevirtual 249, 3) := by decide +kernel
theorem dX6_chances_40 : decode cX6_chances 40 = .ok (.iadd, 1) := by decide +kernel
theorem dX6_chances_41 : decode cX6_chances 41 = .ok (.istore_n 2, 1) := by decide +kernel
theorem dX6_chances_42 : decode cX6_chances 42 = .ok (.iconst 0, 1) := by decide +kernel
theorem dX6_chances_43 : decode cX6_chances 43 = .ok (.istore 4, 2) := by decide +kernel
theorem dX6_chances_45 : decode cX6_chances 45 = .ok (.iload 4, 2) := by decide +kernel
theorem dX6_chances_47 : decode cX6_chances 47 = .ok (.aload_n 0, 1) := by decide +kernel
theorem dX6_chances_48 : decode cX6_chances 48 = .ok (.getfield 13, 3) := by decide +kernel
theorem dX6_chances_51 : decode cX6_chances 51 = .ok (.getfield 246, 3) := by decide +kernel
theorem dX6_chances_54 : decode cX6_chances 54 = .ok (.if_icmp .ge 20, 3) := by decide +kernel
theorem dX6_chances_57 : decode cX6_chances 57 = .ok (.iload_n 2, 1) := by decide +kernel
theorem dX6_chances_58 : decode cX6_chances 58 = .ok (.aload_n 0, 1) := by decide +kernel
theorem dX6_chances_59 : decode cX6_chances 59 = .ok (.iload_n 3, 1) := by decide +kernel
theorem dX6_chances_60 : decode cX6_chances 60 = .ok (.iload 4, 2) := by decide +kernel
theorem dX6_chances_62 : decode cX6_chances 62 = .ok (.iload_n 1, 1) := by decide +kernel
theorem dX6_chances_63 : decode cX6_chances 63 = .ok (.invokevirtual 249, 3) := by decide +kernel
theorem dX6_chances_66 : decode cX6_chances 66 = .ok (.iadd, 1) := by decide +kernel
theorem dX6_chances_67 : decode cX6_chances 67 = .ok (.istore_n 2, 1) := by decide +kernel
theorem dX6_chances_68 : decode cX6_chances 68 = .ok (.iinc 4 1, 3) := by decide +kernel
theorem dX6_chances_71 : decode cX6_chances 71 = .ok (.goto (-26), 3) := by decide +kernel
theorem dX6_chances_74 : decode cX6_chances 74 = .ok (.iinc 3 1, 3) := by decide +kernel
theorem dX6_chances_77 : decode cX6_chances 77 = .ok (.goto (-56), 3) := by decide +kernel
theorem dX6_chances_80 : decode cX6_chances 80 = .ok (.iload_n 2, 1) := by decide +kernel
theorem dX6_chances_81 : decode cX6_chances 81 = .ok (.ireturn, 1) := by decide +kernel
theorem dX6_prize_0 : decode cX6_prize 0 = .ok (.aload_n 0, 1) := by decide +kernel
theorem dX6_prize_1 : decode cX6_prize 1 = .ok (.getfield 45, 3) := by decide +kernel
theorem dX6_prize_4 : decode cX6_prize 4 = .ok (.invokevirtual 252, 3) := by decide +kernel
theorem dX6_prize_7 : decode cX6_prize 7 = .ok (.iconst 0, 1) := by decide +kernel
theorem dX6_prize_8 : decode cX6_prize 8 = .ok (.istore_n 1, 1) := by decide +kernel
theorem dX6_prize_9 : decode cX6_prize 9 = .ok (.iload_n 1, 1) := by decide +kernel
theorem dX6_prize_10 : decode cX6_prize 10 = .ok (.aload_n 0, 1) := by decide +kernel
theorem dX6_prize_11 : decode cX6_prize 11 = .ok (.getfield 19, 3) := by decide +kernel
theorem dX6_prize_14 : decode cX6_prize 14 = .ok (.getfield 108, 3) := by decide +kernel
theorem dX6_prize_17 : decode cX6_prize 17 = .ok (.if_icmp .ge 53, 3) := by decide +kernel
theorem dX6_prize_20 : decode cX6_prize 20 = .ok (.iconst 0, 1) := by decide +kernel
theorem dX6_prize_21 : decode cX6_prize 21 = .ok (.istore_n 2, 1) := by decide +kernel
theorem dX6_prize_22 : decode cX6_prize 22 = .ok (.iload_n 2, 1) := by decide +kernel
theorem dX6_prize_23 : decode cX6_prize 23 = .ok (.iconst 4, 1) := by decide +kernel
theorem dX6_prize_24 : decode cX6_prize 24 = .ok (.if_icmp .ge 40, 3) := by decide +kernel
theorem dX6_prize_27 : decode cX6_prize 27 = .ok (.aload_n 0, 1) := by decide +kernel
theorem dX6_prize_28 : decode cX6_prize 28 = .ok (.getfield 19, 3) := by decide +kernel
theorem dX6_prize_31 : decode cX6_prize 31 = .ok (.iload_n 2, 1) := by decide +kernel
theorem dX6_prize_32 : decode cX6_prize 32 = .ok (.iload_n 1, 1) := by decide +kernel
theorem dX6_prize_33 : decode cX6_prize 33 = .ok (.invokevirtual 255, 3) := by decide +kernel
theorem dX6_prize_36 : decode cX6_prize 36 = .ok (.istore_n 3, 1) := by decide +kernel
theorem dX6_prize_37 : decode cX6_prize 37 = .ok (.iload_n 3, 1) := by decide +kernel
theorem dX6_prize_38 : decode cX6_prize 38 = .ok (.iconst (-1), 1) := by decide +kernel
theorem dX6_prize_39 : decode cX6_prize 39 = .ok (.if_icmp .eq 19, 3) := by decide +kernel
theorem dX6_prize_42 : decode cX6_prize 42 = .ok (.aload_n 0, 1) := by decide +kernel
theorem dX6_prize_43 : decode cX6_prize 43 = .ok (.getfield 45, 3) := by decide +kernel
theorem dX6_prize_46 : decode cX6_prize 46 = .ok (.aload_n 0, 1) := by decide +kernel
theorem dX6_prize_47 : decode cX6_prize 47 = .ok (.getfield 19, 3) := by decide +kernel
theorem dX6_prize_50 : decode cX6_prize 50 = .ok (.iload_n 1, 1) := by decide +kernel
theorem dX6_prize_51 : decode cX6_prize 51 = .ok (.invokevirtual 227, 3) := by decide +kernel
theorem dX6_prize_54 : decode cX6_prize 54 = .ok (.iload_n 3, 1) := by decide +kernel
theorem dX6_prize_55 : decode cX6_prize 55 = .ok (.invokevirtual 258, 3) := by decide +kernel
theorem dX6_prize_58 : decode cX6_prize 58 = .ok (.iinc 2 1, 3) := by decide +kernel
theorem dX6_prize_61 : decode cX6_prize 61 = .ok (.goto (-39), 3) := by decide +kernel
theorem dX6_prize_64 : decode cX6_prize 64 = .ok (.iinc 1 1, 3) := by decide +kernel
theorem dX6_prize_67 : decode cX6_prize 67 = .ok (.goto (-58), 3) := by decide +kernel
theorem dX6_prize_70 : decode cX6_prize 70 = .ok (.aload_n 0, 1) := by decide +kernel
theorem dX6_prize_71 : decode cX6_prize 71 = .ok (.getfield 45, 3) := by decide +kernel
theorem dX6_prize_74 : decode cX6_prize 74 = .ok (.invokevirtual 261, 3) := by decide +kernel
theorem dX6_prize_77 : decode cX6_prize 77 = .ok (.ireturn, 1) := by decide +kernel
theorem dX6_far_0 : decode cX6_far 0 = .ok (.aload_n 0, 1) := by decide +kernel
theorem dX6_far_1 : decode cX6_far 1 = .ok (.iload_n 1, 1) := by decide +kernel
theorem dX6_far_2 : decode cX6_far 2 = .ok (.invokevirtual 201, 3) := by decide +kernel
theorem dX6_far_5 : decode cX6_far 5 = .ok (.aload_n 0, 1) := by decide +kernel
theorem dX6_far_6 : decode cX6_far 6 = .ok (.iload_n 2, 1) := by decide +kernel
theorem dX6_far_7 : decode cX6_far 7 = .ok (.invokevirtual 201, 3) := by decide +kernel
theorem dX6_far_10 : decode cX6_far 10 = .ok (.aload_n 0, 1) := by decide +kernel
theorem dX6_far_11 : decode cX6_far 11 = .ok (.invokevirtual 204, 3) := by decide +kernel
theorem dX6_far_14 : decode cX6_far 14 = .ok (.aload_n 0, 1) := by decide +kernel
theorem dX6_far_15 : decode cX6_far 15 = .ok (.iload_n 1, 1) := by decide +kernel
theorem dX6_far_16 : decode cX6_far 16 = .ok (.iload_n 2, 1) := by decide +kernel
theorem dX6_far_17 : decode cX6_far 17 = .ok (.invokevirtual 265, 3) := by decide +kernel
theorem dX6_far_20 : decode cX6_far 20 = .ok (.ireturn, 1) := by decide +kernel
theorem dX6_source_0 : decode cX6_source 0 = .ok (.aload_n 0, 1) := by decide +kernel
theorem dX6_source_1 : decode cX6_source 1 = .ok (.iload_n 1, 1) := by decide +kernel
theorem dX6_source_2 : decode cX6_source 2 = .ok (.invokevirtual 213, 3) := by decide +kernel
theorem dX6_source_5 : decode cX6_source 5 = .ok (.iconst (-1), 1) := by decide +kernel
theorem dX6_source_6 : decode cX6_source 6 = .ok (.istore_n 2, 1) := by decide +kernel
theorem dX6_source_7 : decode cX6_source 7 = .ok (.aload_n 0, 1) := by decide +kernel
theorem dX6_source_8 : decode cX6_source 8 = .ok (.iload_n 1, 1) := by decide +kernel
theorem dX6_source_9 : decode cX6_source 9 = .ok (.iconst (-1), 1) := by decide +kernel
theorem dX6_source_10 : decode cX6_source 10 = .ok (.invokevirtual 265, 3) := by decide +kernel
theorem dX6_source_13 : decode cX6_source 13 = .ok (.istore_n 3, 1) := by decide +kernel
theorem dX6_source_14 : decode cX6_source 14 = .ok (.iconst 0, 1) := by decide +kernel
theorem dX6_source_15 : decode cX6_source 15 = .ok (.istore 4, 2) := by decide +kernel
theorem dX6_source_17 : decode cX6_source 17 = .ok (.iload 4, 2) := by decide +kernel
theorem dX6_source_19 : decode cX6_source 19 = .ok (.aload_n 0, 1) := by decide +kernel
theorem dX6_source_20 : decode cX6_source 20 = .ok (.getfield 120, 3) := by decide +kernel
theorem dX6_source_23 : decode cX6_source 23 = .ok (.if_icmp .ge 36, 3) := by decide +kernel
theorem dX6_source_26 : decode cX6_source 26 = .ok (.aload_n 0, 1) := by decide +kernel
theorem dX6_source_27 : decode cX6_source 27 = .ok (.iload_n 1, 1) := by decide +kernel
theorem dX6_source_28 : decode cX6_source 28 = .ok (.iload 4, 2) := by decide +kernel
theorem dX6_source_30 : decode cX6_source 30 = .ok (.invokevirtual 265, 3) := by decide +kernel
theorem dX6_source_33 : decode cX6_source 33 = .ok (.istore 5, 2) := by decide +kernel
theorem dX6_source_35 : decode cX6_source 35 = .ok (.iload 4, 2) := by decide +kernel
theorem dX6_source_37 : decode cX6_source 37 = .ok (.iload_n 1, 1) := by decide +kernel
theorem dX6_source_38 : decode cX6_source 38 = .ok (.if_icmp .eq 15, 3) := by decide +kernel
theorem dX6_source_41 : decode cX6_source 41 = .ok (.iload 5, 2) := by decide +kernel
theorem dX6_source_43 : decode cX6_source 43 = .ok (.iload_n 3, 1) := by decide +kernel
theorem dX6_source_44 : decode cX6_source 44 = .ok (.if_icmp .ge 9, 3) := by decide +kernel
theorem dX6_source_47 : decode cX6_source 47 = .ok (.iload 4, 2) := by decide +kernel
theorem dX6_source_49 : decode cX6_source 49 = .ok (.istore_n 2, 1) := by decide +kernel
theorem dX6_source_50 : decode cX6_source 50 = .ok (.iload 5, 2) := by decide +kernel
theorem dX6_source_52 : decode cX6_source 52 = .ok (.istore_n 3, 1) := by decide +kernel
theorem dX6_source_53 : decode cX6_source 53 = .ok (.iinc 4 1, 3) := by decide +kernel
theorem dX6_source_56 : decode cX6_source 56 = .ok (.goto (-39), 3) := by decide +kernel
theorem dX6_source_59 : decode cX6_source 59 = .ok (.iload_n 2, 1) := by decide +kernel
theorem dX6_source_60 : decode cX6_source 60 = .ok (.ireturn, 1) := by decide +kernel
theorem dX6_hand_0 : decode cX6_hand 0 = .ok (.aload_n 0, 1) := by decide +kernel
theorem dX6_hand_1 : decode cX6_hand 1 = .ok (.iload_n 1, 1) := by decide +kernel
theorem dX6_hand_2 : decode cX6_hand 2 = .ok (.invokevirtual 179, 3) := by decide +kernel
theorem dX6_hand_5 : decode cX6_hand 5 = .ok (.aload_n 0, 1) := by decide +kernel
theorem dX6_hand_6 : decode cX6_hand 6 = .ok (.getfield 45, 3) := by decide +kernel
theorem dX6_hand_9 : decode cX6_hand 9 = .ok (.invokevirtual 252, 3) := by decide +kernel
theorem dX6_hand_12 : decode cX6_hand 12 = .ok (.iconst 0, 1) := by decide +kernel
theorem dX6_hand_13 : decode cX6_hand 13 = .ok (.istore_n 2, 1) := by decide +kernel
theorem dX6_hand_14 : decode cX6_hand 14 = .ok (.iload_n 2, 1) := by decide +kernel
theorem dX6_hand_15 : decode cX6_hand 15 = .ok (.aload_n 0, 1) := by decide +kernel
theorem dX6_hand_16 : decode cX6_hand 16 = .ok (.getfield 19, 3) := by decide +kernel
theorem dX6_hand_19 : decode cX6_hand 19 = .ok (.getfield 108, 3) := by decide +kernel
theorem dX6_hand_22 : decode cX6_hand 22 = .ok (.if_icmp .ge 47, 3) := by decide +kernel
theorem dX6_hand_25 : decode cX6_hand 25 = .ok (.iload_n 2, 1) := by decide +kernel
theorem dX6_hand_26 : decode cX6_hand 26 = .ok (.iload_n 1, 1) := by decide +kernel
theorem dX6_hand_27 : decode cX6_hand 27 = .ok (.if_icmp .eq 36, 3) := by decide +kernel
theorem dX6_hand_30 : decode cX6_hand 30 = .ok (.aload_n 0, 1) := by decide +kernel
theorem dX6_hand_31 : decode cX6_hand 31 = .ok (.getfield 19, 3) := by decide +kernel
theorem dX6_hand_34 : decode cX6_hand 34 = .ok (.getfield 223, 3) := by decide +kernel
theorem dX6_hand_37 : decode cX6_hand 37 = .ok (.iload_n 2, 1) := by decide +kernel
theorem dX6_hand_38 : decode cX6_hand 38 = .ok (.baload, 1) := by decide +kernel
theorem dX6_hand_39 : decode cX6_hand 39 = .ok (.ifCond .ne 24, 3) := by decide +kernel
theorem dX6_hand_42 : decode cX6_hand 42 = .ok (.aload_n 0, 1) := by decide +kernel
theorem dX6_hand_43 : decode cX6_hand 43 = .ok (.getfield 45, 3) := by decide +kernel
theorem dX6_hand_46 : decode cX6_hand 46 = .ok (.aload_n 0, 1) := by decide +kernel
theorem dX6_hand_47 : decode cX6_hand 47 = .ok (.getfield 19, 3) := by decide +kernel
theorem dX6_hand_50 : decode cX6_hand 50 = .ok (.iload_n 2, 1) := by decide +kernel
theorem dX6_hand_51 : decode cX6_hand 51 = .ok (.invokevirtual 227, 3) := by decide +kernel
theorem dX6_hand_54 : decode cX6_hand 54 = .ok (.aload_n 0, 1) := by decide +kernel
theorem dX6_hand_55 : decode cX6_hand 55 = .ok (.iload_n 1, 1) := by decide +kernel
theorem dX6_hand_56 : decode cX6_hand 56 = .ok (.iload_n 2, 1) := by decide +kernel
theorem dX6_hand_57 : decode cX6_hand 57 = .ok (.invokevirtual 268, 3) := by decide +kernel
theorem dX6_hand_60 : decode cX6_hand 60 = .ok (.invokevirtual 258, 3) := by decide +kernel
theorem dX6_hand_63 : decode cX6_hand 63 = .ok (.iinc 2 1, 3) := by decide +kernel
theorem dX6_hand_66 : decode cX6_hand 66 = .ok (.goto (-52), 3) := by decide +kernel
theorem dX6_hand_69 : decode cX6_hand 69 = .ok (.aload_n 0, 1) := by decide +kernel
theorem dX6_hand_70 : decode cX6_hand 70 = .ok (.getfield 45, 3) := by decide +kernel
theorem dX6_hand_73 : decode cX6_hand 73 = .ok (.invokevirtual 261, 3) := by decide +kernel
theorem dX6_hand_76 : decode cX6_hand 76 = .ok (.ireturn, 1) := by decide +kernel
theorem dX6_needRange_0 : decode cX6_needRange 0 = .ok (.iload_n 1, 1) := by decide +kernel
theorem dX6_needRange_1 : decode cX6_needRange 1 = .ok (.iload_n 2, 1) := by decide +kernel
theorem dX6_needRange_2 : decode cX6_needRange 2 = .ok (.if_icmp .lt 8, 3) := by decide +kernel
theorem dX6_needRange_5 : decode cX6_needRange 5 = .ok (.iload_n 1, 1) := by decide +kernel
theorem dX6_needRange_6 : decode cX6_needRange 6 = .ok (.iload_n 3, 1) := by decide +kernel
theorem dX6_needRange_7 : decode cX6_needRange 7 = .ok (.if_icmp .le 14, 3) := by decide +kernel
theorem dX6_needRange_10 : decode cX6_needRange 10 = .ok (.new 91, 3) := by decide +kernel
theorem dX6_needRange_13 : decode cX6_needRange 13 = .ok (.dup, 1) := by decide +kernel
theorem dX6_needRange_14 : decode cX6_needRange 14 = .ok (.ldc_w 271, 3) := by decide +kernel
theorem dX6_needRange_17 : decode cX6_needRange 17 = .ok (.invokespecial 95, 3) := by decide +kernel
theorem dX6_needRange_20 : decode cX6_needRange 20 = .ok (.athrow, 1) := by decide +kernel
theorem dX6_needRange_21 : decode cX6_needRange 21 = .ok (.return_, 1) := by decide +kernel
theorem dX6_needWord_0 : decode cX6_needWord 0 = .ok (.aload_n 0, 1) := by decide +kernel
theorem dX6_needWord_1 : decode cX6_needWord 1 = .ok (.getfield 13, 3) := by decide +kernel
theorem dX6_needWord_4 : decode cX6_needWord 4 = .ok (.iload_n 1, 1) := by decide +kernel
theorem dX6_needWord_5 : decode cX6_needWord 5 = .ok (.invokevirtual 273, 3) := by decide +kernel
theorem dX6_needWord_8 : decode cX6_needWord 8 = .ok (.ifCond .ne 14, 3) := by decide +kernel
theorem dX6_needWord_11 : decode cX6_needWord 11 = .ok (.new 126, 3) := by decide +kernel
theorem dX6_needWord_14 : decode cX6_needWord 14 = .ok (.dup, 1) := by decide +kernel
theorem dX6_needWord_15 : decode cX6_needWord 15 = .ok (.ldc_w 277, 3) := by decide +kernel
theorem dX6_needWord_18 : decode cX6_needWord 18 = .ok (.invokespecial 130, 3) := by decide +kernel
theorem dX6_needWord_21 : decode cX6_needWord 21 = .ok (.athrow, 1) := by decide +kernel
theorem dX6_needWord_22 : decode cX6_needWord 22 = .ok (.return_, 1) := by decide +kernel
theorem dX6_needPoet_0 : decode cX6_needPoet 0 = .ok (.iload_n 1, 1) := by decide +kernel
theorem dX6_needPoet_1 : decode cX6_needPoet 1 = .ok (.ifCond .lt 11, 3) := by decide +kernel
theorem dX6_needPoet_4 : decode cX6_needPoet 4 = .ok (.iload_n 1, 1) := by decide +kernel
theorem dX6_needPoet_5 : decode cX6_needPoet 5 = .ok (.aload_n 0, 1) := by decide +kernel
theorem dX6_needPoet_6 : decode cX6_needPoet 6 = .ok (.getfield 100, 3) := by decide +kernel
theorem dX6_needPoet_9 : decode cX6_needPoet 9 = .ok (.if_icmp .lt 14, 3) := by decide +kernel
theorem dX6_needPoet_12 : decode cX6_needPoet 12 = .ok (.new 126, 3) := by decide +kernel
theorem dX6_needPoet_15 : decode cX6_needPoet 15 = .ok (.dup, 1) := by decide +kernel
theorem dX6_needPoet_16 : decode cX6_needPoet 16 = .ok (.ldc_w 279, 3) := by decide +kernel
theorem dX6_needPoet_19 : decode cX6_needPoet 19 = .ok (.invokespecial 130, 3) := by decide +kernel
theorem dX6_needPoet_22 : decode cX6_needPoet 22 = .ok (.athrow, 1) := by decide +kernel
theorem dX6_needPoet_23 : decode cX6_needPoet 23 = .ok (.return_, 1) := by decide +kernel
theorem dX6_needLink_0 : decode cX6_needLink 0 = .ok (.aload_n 0, 1) := by decide +kernel
theorem dX6_needLink_1 : decode cX6_needLink 1 = .ok (.getfield 19, 3) := by decide +kernel
theorem dX6_needLink_4 : decode cX6_needLink 4 = .ok (.iload_n 1, 1) := by decide +kernel
theorem dX6_needLink_5 : decode cX6_needLink 5 = .ok (.invokevirtual 281, 3) := by decide +kernel
theorem dX6_needLink_8 : decode cX6_needLink 8 = .ok (.ifCond .ne 14, 3) := by decide +kernel
theorem dX6_needLink_11 : decode cX6_needLink 11 = .ok (.new 126, 3) := by decide +kernel
theorem dX6_needLink_14 : decode cX6_needLink 14 = .ok (.dup, 1) := by decide +kernel
theorem dX6_needLink_15 : decode cX6_needLink 15 = .ok (.ldc_w 282, 3) := by decide +kernel
theorem dX6_needLink_18 : decode cX6_needLink 18 = .ok (.invokespecial 130, 3) := by decide +kernel
theorem dX6_needLink_21 : decode cX6_needLink 21 = .ok (.athrow, 1) := by decide +kernel
theorem dX6_needLink_22 : decode cX6_needLink 22 = .ok (.return_, 1) := by decide +kernel
theorem dX6_needPlace_0 : decode cX6_needPlace 0 = .ok (.aload_n 0, 1) := by decide +kernel
theorem dX6_needPlace_1 : decode cX6_needPlace 1 = .ok (.getfield 19, 3) := by decide +kernel
theorem dX6_needPlace_4 : decode cX6_needPlace 4 = .ok (.iload_n 1, 1) := by decide +kernel
theorem dX6_needPlace_5 : decode cX6_needPlace 5 = .ok (.iload_n 2, 1) := by decide +kernel
theorem dX6_needPlace_6 : decode cX6_needPlace 6 = .ok (.invokevirtual 242, 3) := by decide +kernel
theorem dX6_needPlace_9 : decode cX6_needPlace 9 = .ok (.iconst (-1), 1) := by decide +kernel
theorem dX6_needPlace_10 : decode cX6_needPlace 10 = .ok (.if_icmp .ne 14, 3) := by decide +kernel
theorem dX6_needPlace_13 : decode cX6_needPlace 13 = .ok (.new 126, 3) := by decide +kernel
theorem dX6_needPlace_16 : decode cX6_needPlace 16 = .ok (.dup, 1) := by decide +kernel
theorem dX6_needPlace_17 : decode cX6_needPlace 17 = .ok (.ldc_w 284, 3) := by decide +kernel
theorem dX6_needPlace_20 : decode cX6_needPlace 20 = .ok (.invokespecial 130, 3) := by decide +kernel
theorem dX6_needPlace_23 : decode cX6_needPlace 23 = .ok (.athrow, 1) := by decide +kernel
theorem dX6_needPlace_24 : decode cX6_needPlace 24 = .ok (.return_, 1) := by decide +kernel
theorem dX6_needCopy_0 : decode cX6_needCopy 0 = .ok (.iload_n 1, 1) := by decide +kernel
theorem dX6_needCopy_1 : decode cX6_needCopy 1 = .ok (.ifCond .lt 11, 3) := by decide +kernel
theorem dX6_needCopy_4 : decode cX6_needCopy 4 = .ok (.iload_n 1, 1) := by decide +kernel
theorem dX6_needCopy_5 : decode cX6_needCopy 5 = .ok (.aload_n 0, 1) := by decide +kernel
theorem dX6_needCopy_6 : decode cX6_needCopy 6 = .ok (.getfield 120, 3) := by decide +kernel
theorem dX6_needCopy_9 : decode cX6_needCopy 9 = .ok (.if_icmp .lt 14, 3) := by decide +kernel
theorem dX6_needCopy_12 : decode cX6_needCopy 12 = .ok (.new 126, 3) := by decide +kernel
theorem dX6_needCopy_15 : decode cX6_needCopy 15 = .ok (.dup, 1) := by decide +kernel
theorem dX6_needCopy_16 : decode cX6_needCopy 16 = .ok (.ldc_w 286, 3) := by decide +kernel
theorem dX6_needCopy_19 : decode cX6_needCopy 19 = .ok (.invokespecial 130, 3) := by decide +kernel
theorem dX6_needCopy_22 : decode cX6_needCopy 22 = .ok (.athrow, 1) := by decide +kernel
theorem dX6_needCopy_23 : decode cX6_needCopy 23 = .ok (.return_, 1) := by decide +kernel
theorem dX6_needText_0 : decode cX6_needText 0 = .ok (.iload_n 1, 1) := by decide +kernel
theorem dX6_needText_1 : decode cX6_needText 1 = .ok (.iconst (-1), 1) := by decide +kernel
theorem dX6_needText_2 : decode cX6_needText 2 = .ok (.if_icmp .eq 8, 3) := by decide +kernel
theorem dX6_needText_5 : decode cX6_needText 5 = .ok (.aload_n 0, 1) := by decide +kernel
theorem dX6_needText_6 : decode cX6_needText 6 = .ok (.iload_n 1, 1) := by decide +kernel
theorem dX6_needText_7 : decode cX6_needText 7 = .ok (.invokevirtual 213, 3) := by decide +kernel
theorem dX6_needText_10 : decode cX6_needText 10 = .ok (.return_, 1) := by decide +kernel
theorem dX6_needPoem_0 : decode cX6_needPoem 0 = .ok (.aload_n 0, 1) := by decide +kernel
theorem dX6_needPoem_1 : decode cX6_needPoem 1 = .ok (.getfield 19, 3) := by decide +kernel
theorem dX6_needPoem_4 : decode cX6_needPoem 4 = .ok (.invokevirtual 288, 3) := by decide +kernel
theorem dX6_needPoem_7 : decode cX6_needPoem 7 = .ok (.ifCond .ne 14, 3) := by decide +kernel
theorem dX6_needPoem_10 : decode cX6_needPoem 10 = .ok (.new 76, 3) := by decide +kernel
theorem dX6_needPoem_13 : decode cX6_needPoem 13 = .ok (.dup, 1) := by decide +kernel
theorem dX6_needPoem_14 : decode cX6_needPoem 14 = .ok (.ldc_w 291, 3) := by decide +kernel
theorem dX6_needPoem_17 : decode cX6_needPoem 17 = .ok (.invokespecial 80, 3) := by decide +kernel
theorem dX6_needPoem_20 : decode cX6_needPoem 20 = .ok (.athrow, 1) := by decide +kernel
theorem dX6_needPoem_21 : decode cX6_needPoem 21 = .ok (.return_, 1) := by decide +kernel
theorem dX6_needNoOffers_0 : decode cX6_needNoOffers 0 = .ok (.aload_n 0, 1) := by decide +kernel
theorem dX6_needNoOffers_1 : decode cX6_needNoOffers 1 = .ok (.getfield 117, 3) := by decide +kernel
theorem dX6_needNoOffers_4 : decode cX6_needNoOffers 4 = .ok (.ifCond .le 14, 3) := by decide +kernel
theorem dX6_needNoOffers_7 : decode cX6_needNoOffers 7 = .ok (.new 76, 3) := by decide +kernel
theorem dX6_needNoOffers_10 : decode cX6_needNoOffers 10 = .ok (.dup, 1) := by decide +kernel
theorem dX6_needNoOffers_11 : decode cX6_needNoOffers 11 = .ok (.ldc_w 293, 3) := by decide +kernel
theorem dX6_needNoOffers_14 : decode cX6_needNoOffers 14 = .ok (.invokespecial 80, 3) := by decide +kernel
theorem dX6_needNoOffers_17 : decode cX6_needNoOffers 17 = .ok (.athrow, 1) := by decide +kernel
theorem dX6_needNoOffers_18 : decode cX6_needNoOffers 18 = .ok (.return_, 1) := by decide +kernel
theorem dX6_chanceOf_0 : decode cX6_chanceOf 0 = .ok (.aload_n 0, 1) := by decide +kernel
theorem dX6_chanceOf_1 : decode cX6_chanceOf 1 = .ok (.getfield 39, 3) := by decide +kernel
theorem dX6_chanceOf_4 : decode cX6_chanceOf 4 = .ok (.invokevirtual 151, 3) := by decide +kernel
theorem dX6_chanceOf_7 : decode cX6_chanceOf 7 = .ok (.aload_n 0, 1) := by decide +kernel
theorem dX6_chanceOf_8 : decode cX6_chanceOf 8 = .ok (.getfield 39, 3) := by decide +kernel
theorem dX6_chanceOf_11 : decode cX6_chanceOf 11 = .ok (.iload_n 1, 1) := by decide +kernel
theorem dX6_chanceOf_12 : decode cX6_chanceOf 12 = .ok (.aload_n 0, 1) := by decide +kernel
theorem dX6_chanceOf_13 : decode cX6_chanceOf 13 = .ok (.getfield 13, 3) := by decide +kernel
theorem dX6_chanceOf_16 : decode cX6_chanceOf 16 = .ok (.invokevirtual 147, 3) := by decide +kernel
theorem dX6_chanceOf_19 : decode cX6_chanceOf 19 = .ok (.iload_n 2, 1) := by decide +kernel
theorem dX6_chanceOf_20 : decode cX6_chanceOf 20 = .ok (.iconst (-1), 1) := by decide +kernel
theorem dX6_chanceOf_21 : decode cX6_chanceOf 21 = .ok (.if_icmp .eq 15, 3) := by decide +kernel
theorem dX6_chanceOf_24 : decode cX6_chanceOf 24 = .ok (.aload_n 0, 1) := by decide +kernel
theorem dX6_chanceOf_25 : decode cX6_chanceOf 25 = .ok (.getfield 39, 3) := by decide +kernel
theorem dX6_chanceOf_28 : decode cX6_chanceOf 28 = .ok (.iload_n 2, 1) := by decide +kernel
theorem dX6_chanceOf_29 : decode cX6_chanceOf 29 = .ok (.aload_n 0, 1) := by decide +kernel
theorem dX6_chanceOf_30 : decode cX6_chanceOf 30 = .ok (.getfield 13, 3) := by decide +kernel
theorem dX6_chanceOf_33 : decode cX6_chanceOf 33 = .ok (.invokevirtual 147, 3) := by decide +kernel
theorem dX6_chanceOf_36 : decode cX6_chanceOf 36 = .ok (.aload_n 0, 1) := by decide +kernel
theorem dX6_chanceOf_37 : decode cX6_chanceOf 37 = .ok (.getfield 28, 3) := by decide +kernel
theorem dX6_chanceOf_40 : decode cX6_chanceOf 40 = .ok (.aload_n 0, 1) := by decide +kernel
theorem dX6_chanceOf_41 : decode cX6_chanceOf 41 = .ok (.getfield 39, 3) := by decide +kernel
theorem dX6_chanceOf_44 : decode cX6_chanceOf 44 = .ok (.aload_n 0, 1) := by decide +kernel
theorem dX6_chanceOf_45 : decode cX6_chanceOf 45 = .ok (.getfield 19, 3) := by decide +kernel
theorem dX6_chanceOf_48 : decode cX6_chanceOf 48 = .ok (.getfield 108, 3) := by decide +kernel
theorem dX6_chanceOf_51 : decode cX6_chanceOf 51 = .ok (.iload_n 3, 1) := by decide +kernel
theorem dX6_chanceOf_52 : decode cX6_chanceOf 52 = .ok (.invokevirtual 161, 3) := by decide +kernel
theorem dX6_chanceOf_55 : decode cX6_chanceOf 55 = .ok (.ifCond .ne 7, 3) := by decide +kernel
theorem dX6_chanceOf_58 : decode cX6_chanceOf 58 = .ok (.iconst 1, 1) := by decide +kernel
theorem dX6_chanceOf_59 : decode cX6_chanceOf 59 = .ok (.goto 4, 3) := by decide +kernel
theorem dX6_chanceOf_62 : decode cX6_chanceOf 62 = .ok (.iconst 0, 1) := by decide +kernel
theorem dX6_chanceOf_63 : decode cX6_chanceOf 63 = .ok (.ireturn, 1) := by decide +kernel
theorem dX6_likeness_0 : decode cX6_likeness 0 = .ok (.aload_n 0, 1) := by decide +kernel
theorem dX6_likeness_1 : decode cX6_likeness 1 = .ok (.getfield 19, 3) := by decide +kernel
theorem dX6_likeness_4 : decode cX6_likeness 4 = .ok (.iload_n 1, 1) := by decide +kernel
theorem dX6_likeness_5 : decode cX6_likeness 5 = .ok (.invokevirtual 295, 3) := by decide +kernel
theorem dX6_likeness_8 : decode cX6_likeness 8 = .ok (.aload_n 0, 1) := by decide +kernel
theorem dX6_likeness_9 : decode cX6_likeness 9 = .ok (.getfield 19, 3) := by decide +kernel
theorem dX6_likeness_12 : decode cX6_likeness 12 = .ok (.iload_n 2, 1) := by decide +kernel
theorem dX6_likeness_13 : decode cX6_likeness 13 = .ok (.invokevirtual 295, 3) := by decide +kernel
theorem dX6_likeness_16 : decode cX6_likeness 16 = .ok (.land, 1) := by decide +kernel
theorem dX6_likeness_17 : decode cX6_likeness 17 = .ok (.invokestatic 299, 3) := by decide +kernel
theorem dX6_likeness_20 : decode cX6_likeness 20 = .ok (.istore_n 3, 1) := by decide +kernel
theorem dX6_likeness_21 : decode cX6_likeness 21 = .ok (.aload_n 0, 1) := by decide +kernel
theorem dX6_likeness_22 : decode cX6_likeness 22 = .ok (.getfield 19, 3) := by decide +kernel
theorem dX6_likeness_25 : decode cX6_likeness 25 = .ok (.iload_n 1, 1) := by decide +kernel
theorem dX6_likeness_26 : decode cX6_likeness 26 = .ok (.invokevirtual 233, 3) := by decide +kernel
theorem dX6_likeness_29 : decode cX6_likeness 29 = .ok (.aload_n 0, 1) := by decide +kernel
theorem dX6_likeness_30 : decode cX6_likeness 30 = .ok (.getfield 19, 3) := by decide +kernel
theorem dX6_likeness_33 : decode cX6_likeness 33 = .ok (.iload_n 2, 1) := by decide +kernel
theorem dX6_likeness_34 : decode cX6_likeness 34 = .ok (.invokevirtual 233, 3) := by decide +kernel
theorem dX6_likeness_37 : decode cX6_likeness 37 = .ok (.iand, 1) := by decide +kernel
theorem dX6_likeness_38 : decode cX6_likeness 38 = .ok (.invokestatic 305, 3) := by decide +kernel
theorem dX6_likeness_41 : decode cX6_likeness 41 = .ok (.istore 4, 2) := by decide +kernel
theorem dX6_likeness_43 : decode cX6_likeness 43 = .ok (.iconst 3, 1) := by decide +kernel
theorem dX6_likeness_44 : decode cX6_likeness 44 = .ok (.iload_n 3, 1) := by decide +kernel
theorem dX6_likeness_45 : decode cX6_likeness 45 = .ok (.imul, 1) := by decide +kernel
theorem dX6_likeness_46 : decode cX6_likeness 46 = .ok (.iload 4, 2) := by decide +kernel
theorem dX6_likeness_48 : decode cX6_likeness 48 = .ok (.iadd, 1) := by decide +kernel
theorem dX6_likeness_49 : decode cX6_likeness 49 = .ok (.ireturn, 1) := by decide +kernel
theorem dX6_textWord_0 : decode cX6_textWord 0 = .ok (.iload_n 1, 1) := by decide +kernel
theorem dX6_textWord_1 : decode cX6_textWord 1 = .ok (.iconst (-1), 1) := by decide +kernel
theorem dX6_textWord_2 : decode cX6_textWord 2 = .ok (.if_icmp .ne 13, 3) := by decide +kernel
theorem dX6_textWord_5 : decode cX6_textWord 5 = .ok (.aload_n 0, 1) := by decide +kernel
theorem dX6_textWord_6 : decode cX6_textWord 6 = .ok (.getfield 19, 3) := by decide +kernel
theorem dX6_textWord_9 : decode cX6_textWord 9 = .ok (.iload_n 2, 1) := by decide +kernel
theorem dX6_textWord_10 : decode cX6_textWord 10 = .ok (.iload_n 3, 1) := by decide +kernel
theorem dX6_textWord_11 : decode cX6_textWord 11 = .ok (.invokevirtual 242, 3) := by decide +kernel
theorem dX6_textWord_14 : decode cX6_textWord 14 = .ok (.ireturn, 1) := by decide +kernel
theorem dX6_textWord_15 : decode cX6_textWord 15 = .ok (.iload_n 1, 1) := by decide +kernel
theorem dX6_textWord_16 : decode cX6_textWord 16 = .ok (.ifCond .lt 15, 3) := by decide +kernel
theorem dX6_textWord_19 : decode cX6_textWord 19 = .ok (.iload_n 1, 1) := by decide +kernel
theorem dX6_textWord_20 : decode cX6_textWord 20 = .ok (.aload_n 0, 1) := by decide +kernel
theorem dX6_textWord_21 : decode cX6_textWord 21 = .ok (.getfield 120, 3) := by decide +kernel
theorem dX6_textWord_24 : decode cX6_textWord 24 = .ok (.if_icmp .ge 7, 3) := by decide +kernel
theorem dX6_textWord_27 : decode cX6_textWord 27 = .ok (.iconst 1, 1) := by decide +kernel
theorem dX6_textWord_28 : decode cX6_textWord 28 = .ok (.goto 4, 3) := by decide +kernel
theorem dX6_textWord_31 : decode cX6_textWord 31 = .ok (.iconst 0, 1) := by decide +kernel
theorem dX6_textWord_32 : decode cX6_textWord 32 = .ok (.istore 4, 2) := by decide +kernel
theorem dX6_textWord_34 : decode cX6_textWord 34 = .ok (.iload 4, 2) := by decide +kernel
theorem dX6_textWord_36 : decode cX6_textWord 36 = .ok (.ifCond .eq 17, 3) := by decide +kernel
theorem dX6_textWord_39 : decode cX6_textWord 39 = .ok (.aload_n 0, 1) := by decide +kernel
theorem dX6_textWord_40 : decode cX6_textWord 40 = .ok (.getfield 59, 3) := by decide +kernel
theorem dX6_textWord_43 : decode cX6_textWord 43 = .ok (.iload_n 1, 1) := by decide +kernel
theorem dX6_textWord_44 : decode cX6_textWord 44 = .ok (.aaload, 1) := by decide +kernel
theorem dX6_textWord_45 : decode cX6_textWord 45 = .ok (.iload_n 2, 1) := by decide +kernel
theorem dX6_textWord_46 : decode cX6_textWord 46 = .ok (.iload_n 3, 1) := by decide +kernel
theorem dX6_textWord_47 : decode cX6_textWord 47 = .ok (.invokevirtual 309, 3) := by decide +kernel
theorem dX6_textWord_50 : decode cX6_textWord 50 = .ok (.goto 4, 3) := by decide +kernel
theorem dX6_textWord_53 : decode cX6_textWord 53 = .ok (.iconst (-1), 1) := by decide +kernel
theorem dX6_textWord_54 : decode cX6_textWord 54 = .ok (.ireturn, 1) := by decide +kernel
theorem dX6_fillSheet_0 : decode cX6_fillSheet 0 = .ok (.iconst 0, 1) := by decide +kernel
theorem dX6_fillSheet_1 : decode cX6_fillSheet 1 = .ok (.istore_n 3, 1) := by decide +kernel
theorem dX6_fillSheet_2 : decode cX6_fillSheet 2 = .ok (.iload_n 3, 1) := by decide +kernel
theorem dX6_fillSheet_3 : decode cX6_fillSheet 3 = .ok (.bipush 36, 2) := by decide +kernel
theorem dX6_fillSheet_5 : decode cX6_fillSheet 5 = .ok (.if_icmp .ge 40, 3) := by decide +kernel
theorem dX6_fillSheet_8 : decode cX6_fillSheet 8 = .ok (.iconst 0, 1) := by decide +kernel
theorem dX6_fillSheet_9 : decode cX6_fillSheet 9 = .ok (.istore 4, 2) := by decide +kernel
theorem dX6_fillSheet_11 : decode cX6_fillSheet 11 = .ok (.iload 4, 2) := by decide +kernel
theorem dX6_fillSheet_13 : decode cX6_fillSheet 13 = .ok (.bipush 6, 2) := by decide +kernel
theorem dX6_fillSheet_15 : decode cX6_fillSheet 15 = .ok (.if_icmp .ge 24, 3) := by decide +kernel
theorem dX6_fillSheet_18 : decode cX6_fillSheet 18 = .ok (.aload_n 1, 1) := by decide +kernel
theorem dX6_fillSheet_19 : decode cX6_fillSheet 19 = .ok (.iload_n 3, 1) := by decide +kernel
theorem dX6_fillSheet_20 : decode cX6_fillSheet 20 = .ok (.iload 4, 2) := by decide +kernel
theorem dX6_fillSheet_22 : decode cX6_fillSheet 22 = .ok (.aload_n 0, 1) := by decide +kernel
theorem dX6_fillSheet_23 : decode cX6_fillSheet 23 = .ok (.iload_n 2, 1) := by decide +kernel
theorem dX6_fillSheet_24 : decode cX6_fillSheet 24 = .ok (.iload_n 3, 1) := by decide +kernel
theorem dX6_fillSheet_25 : decode cX6_fillSheet 25 = .ok (.iload 4, 2) := by decide +kernel
theorem dX6_fillSheet_27 : decode cX6_fillSheet 27 = .ok (.invokevirtual 216, 3) := by decide +kernel
theorem dX6_fillSheet_30 : decode cX6_fillSheet 30 = .ok (.invokevirtual 221, 3) := by decide +kernel
theorem dX6_fillSheet_33 : decode cX6_fillSheet 33 = .ok (.iinc 4 1, 3) := by decide +kernel
theorem dX6_fillSheet_36 : decode cX6_fillSheet 36 = .ok (.goto (-25), 3) := by decide +kernel
theorem dX6_fillSheet_39 : decode cX6_fillSheet 39 = .ok (.iinc 3 1, 3) := by decide +kernel
theorem dX6_fillSheet_42 : decode cX6_fillSheet 42 = .ok (.goto (-40), 3) := by decide +kernel
theorem dX6_fillSheet_45 : decode cX6_fillSheet 45 = .ok (.return_, 1) := by decide +kernel
theorem dX6_distance_0 : decode cX6_distance 0 = .ok (.iconst 0, 1) := by decide +kernel
theorem dX6_distance_1 : decode cX6_distance 1 = .ok (.istore_n 3, 1) := by decide +kernel
theorem dX6_distance_2 : decode cX6_distance 2 = .ok (.iconst 0, 1) := by decide +kernel
theorem dX6_distance_3 : decode cX6_distance 3 = .ok (.istore 4, 2) := by decide +kernel
theorem dX6_distance_5 : decode cX6_distance 5 = .ok (.iload 4, 2) := by decide +kernel
theorem dX6_distance_7 : decode cX6_distance 7 = .ok (.bipush 36, 2) := by decide +kernel
theorem dX6_distance_9 : decode cX6_distance 9 = .ok (.if_icmp .ge 49, 3) := by decide +kernel
theorem dX6_distance_12 : decode cX6_distance 12 = .ok (.iconst 0, 1) := by decide +kernel
theorem dX6_distance_13 : decode cX6_distance 13 = .ok (.istore 5, 2) := by decide +kernel
theorem dX6_distance_15 : decode cX6_distance 15 = .ok (.iload 5, 2) := by decide +kernel
theorem dX6_distance_17 : decode cX6_distance 17 = .ok (.bipush 6, 2) := by decide +kernel
theorem dX6_distance_19 : decode cX6_distance 19 = .ok (.if_icmp .ge 33, 3) := by decide +kernel
theorem dX6_distance_22 : decode cX6_distance 22 = .ok (.aload_n 0, 1) := by decide +kernel
theorem dX6_distance_23 : decode cX6_distance 23 = .ok (.iload_n 1, 1) := by decide +kernel
theorem dX6_distance_24 : decode cX6_distance 24 = .ok (.iload 4, 2) := by decide +kernel
theorem dX6_distance_26 : decode cX6_distance 26 = .ok (.iload 5, 2) := by decide +kernel
theorem dX6_distance_28 : decode cX6_distance 28 = .ok (.invokevirtual 216, 3) := by decide +kernel
theorem dX6_distance_31 : decode cX6_distance 31 = .ok (.aload_n 0, 1) := by decide +kernel
theorem dX6_distance_32 : decode cX6_distance 32 = .ok (.iload_n 2, 1) := by decide +kernel
theorem dX6_distance_33 : decode cX6_distance 33 = .ok (.iload 4, 2) := by decide +kernel
theorem dX6_distance_35 : decode cX6_distance 35 = .ok (.iload 5, 2) := by decide +kernel
theorem dX6_distance_37 : decode cX6_distance 37 = .ok (.invokevirtual 216, 3) := by decide +kernel
theorem dX6_distance_40 : decode cX6_distance 40 = .ok (.if_icmp .eq 6, 3) := by decide +kernel
theorem dX6_distance_43 : decode cX6_distance 43 = .ok (.iinc 3 1, 3) := by decide +kernel
theorem dX6_distance_46 : decode cX6_distance 46 = .ok (.iinc 5 1, 3) := by decide +kernel
theorem dX6_distance_49 : decode cX6_distance 49 = .ok (.goto (-34), 3) := by decide +kernel
theorem dX6_distance_52 : decode cX6_distance 52 = .ok (.iinc 4 1, 3) := by decide +kernel
theorem dX6_distance_55 : decode cX6_distance 55 = .ok (.goto (-50), 3) := by decide +kernel
theorem dX6_distance_58 : decode cX6_distance 58 = .ok (.iload_n 3, 1) := by decide +kernel
theorem dX6_distance_59 : decode cX6_distance 59 = .ok (.ireturn, 1) := by decide +kernel
