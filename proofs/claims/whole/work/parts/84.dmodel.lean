theorem dX5_init_0 : decode cX5_init 0 = .ok (.aload_n 0, 1) := by decide +kernel
theorem dX5_init_1 : decode cX5_init 1 = .ok (.invokespecial 1, 3) := by decide +kernel
theorem dX5_init_4 : decode cX5_init 4 = .ok (.aload_n 0, 1) := by decide +kernel
theorem dX5_init_5 : decode cX5_init 5 = .ok (.sipush 400, 3) := by decide +kernel
theorem dX5_init_8 : decode cX5_init 8 = .ok (.newarray .int, 2) := by decide +kernel
theorem dX5_init_10 : decode cX5_init 10 = .ok (.putfield 7, 3) := by decide +kernel
theorem dX5_init_13 : decode cX5_init 13 = .ok (.aload_n 0, 1) := by decide +kernel
theorem dX5_init_14 : decode cX5_init 14 = .ok (.sipush 400, 3) := by decide +kernel
theorem dX5_init_17 : decode cX5_init 17 = .ok (.newarray .int, 2) := by decide +kernel
theorem dX5_init_19 : decode cX5_init 19 = .ok (.putfield 13, 3) := by decide +kernel
theorem dX5_init_22 : decode cX5_init 22 = .ok (.aload_n 0, 1) := by decide +kernel
theorem dX5_init_23 : decode cX5_init 23 = .ok (.sipush 400, 3) := by decide +kernel
theorem dX5_init_26 : decode cX5_init 26 = .ok (.newarray .boolean, 2) := by decide +kernel
theorem dX5_init_28 : decode cX5_init 28 = .ok (.putfield 16, 3) := by decide +kernel
theorem dX5_init_31 : decode cX5_init 31 = .ok (.aload_n 0, 1) := by decide +kernel
theorem dX5_init_32 : decode cX5_init 32 = .ok (.iconst (-1), 1) := by decide +kernel
theorem dX5_init_33 : decode cX5_init 33 = .ok (.putfield 20, 3) := by decide +kernel
theorem dX5_init_36 : decode cX5_init 36 = .ok (.aload_n 0, 1) := by decide +kernel
theorem dX5_init_37 : decode cX5_init 37 = .ok (.sipush 2400, 3) := by decide +kernel
theorem dX5_init_40 : decode cX5_init 40 = .ok (.newarray .int, 2) := by decide +kernel
theorem dX5_init_42 : decode cX5_init 42 = .ok (.putfield 24, 3) := by decide +kernel
theorem dX5_init_45 : decode cX5_init 45 = .ok (.aload_n 0, 1) := by decide +kernel
theorem dX5_init_46 : decode cX5_init 46 = .ok (.sipush 2400, 3) := by decide +kernel
theorem dX5_init_49 : decode cX5_init 49 = .ok (.newarray .int, 2) := by decide +kernel
theorem dX5_init_51 : decode cX5_init 51 = .ok (.putfield 27, 3) := by decide +kernel
theorem dX5_init_54 : decode cX5_init 54 = .ok (.aload_n 0, 1) := by decide +kernel
theorem dX5_init_55 : decode cX5_init 55 = .ok (.bipush 6, 2) := by decide +kernel
theorem dX5_init_57 : decode cX5_init 57 = .ok (.newarray .int, 2) := by decide +kernel
theorem dX5_init_59 : decode cX5_init 59 = .ok (.putfield 30, 3) := by decide +kernel
theorem dX5_init_62 : decode cX5_init 62 = .ok (.aload_n 0, 1) := by decide +kernel
theorem dX5_init_63 : decode cX5_init 63 = .ok (.sipush 400, 3) := by decide +kernel
theorem dX5_init_66 : decode cX5_init 66 = .ok (.newarray .int, 2) := by decide +kernel
theorem dX5_init_68 : decode cX5_init 68 = .ok (.putfield 33, 3) := by decide +kernel
theorem dX5_init_71 : decode cX5_init 71 = .ok (.aload_n 0, 1) := by decide +kernel
theorem dX5_init_72 : decode cX5_init 72 = .ok (.iconst 4, 1) := by decide +kernel
theorem dX5_init_73 : decode cX5_init 73 = .ok (.newarray .int, 2) := by decide +kernel
theorem dX5_init_75 : decode cX5_init 75 = .ok (.putfield 36, 3) := by decide +kernel
theorem dX5_init_78 : decode cX5_init 78 = .ok (.aload_n 0, 1) := by decide +kernel
theorem dX5_init_79 : decode cX5_init 79 = .ok (.iconst 4, 1) := by decide +kernel
theorem dX5_init_80 : decode cX5_init 80 = .ok (.newarray .int, 2) := by decide +kernel
theorem dX5_init_82 : decode cX5_init 82 = .ok (.putfield 39, 3) := by decide +kernel
theorem dX5_init_85 : decode cX5_init 85 = .ok (.aload_n 0, 1) := by decide +kernel
theorem dX5_init_86 : decode cX5_init 86 = .ok (.iconst 4, 1) := by decide +kernel
theorem dX5_init_87 : decode cX5_init 87 = .ok (.newarray .int, 2) := by decide +kernel
theorem dX5_init_89 : decode cX5_init 89 = .ok (.putfield 42, 3) := by decide +kernel
theorem dX5_init_92 : decode cX5_init 92 = .ok (.aload_n 0, 1) := by decide +kernel
theorem dX5_init_93 : decode cX5_init 93 = .ok (.sipush 1000, 3) := by decide +kernel
theorem dX5_init_96 : decode cX5_init 96 = .ok (.newarray .int, 2) := by decide +kernel
theorem dX5_init_98 : decode cX5_init 98 = .ok (.putfield 45, 3) := by decide +kernel
theorem dX5_init_101 : decode cX5_init 101 = .ok (.aload_n 0, 1) := by decide +kernel
theorem dX5_init_102 : decode cX5_init 102 = .ok (.sipush 400, 3) := by decide +kernel
theorem dX5_init_105 : decode cX5_init 105 = .ok (.newarray .boolean, 2) := by decide +kernel
theorem dX5_init_107 : decode cX5_init 107 = .ok (.putfield 48, 3) := by decide +kernel
theorem dX5_init_110 : decode cX5_init 110 = .ok (.aload_n 0, 1) := by decide +kernel
theorem dX5_init_111 : decode cX5_init 111 = .ok (.sipush 400, 3) := by decide +kernel
theorem dX5_init_114 : decode cX5_init 114 = .ok (.newarray .int, 2) := by decide +kernel
theorem dX5_init_116 : decode cX5_init 116 = .ok (.putfield 51, 3) := by decide +kernel
theorem dX5_init_119 : decode cX5_init 119 = .ok (.aload_n 0, 1) := by decide +kernel
theorem dX5_init_120 : decode cX5_init 120 = .ok (.sipush 1000, 3) := by decide +kernel
theorem dX5_init_123 : decode cX5_init 123 = .ok (.newarray .int, 2) := by decide +kernel
theorem dX5_init_125 : decode cX5_init 125 = .ok (.putfield 54, 3) := by decide +kernel
theorem dX5_init_128 : decode cX5_init 128 = .ok (.aload_n 0, 1) := by decide +kernel
theorem dX5_init_129 : decode cX5_init 129 = .ok (.iload_n 1, 1) := by decide +kernel
theorem dX5_init_130 : decode cX5_init 130 = .ok (.iconst 1, 1) := by decide +kernel
theorem dX5_init_131 : decode cX5_init 131 = .ok (.if_icmp .ge 7, 3) := by decide +kernel
theorem dX5_init_134 : decode cX5_init 134 = .ok (.iconst 1, 1) := by decide +kernel
theorem dX5_init_135 : decode cX5_init 135 = .ok (.goto 17, 3) := by decide +kernel
theorem dX5_init_138 : decode cX5_init 138 = .ok (.iload_n 1, 1) := by decide +kernel
theorem dX5_init_139 : decode cX5_init 139 = .ok (.sipush 400, 3) := by decide +kernel
theorem dX5_init_142 : decode cX5_init 142 = .ok (.if_icmp .le 9, 3) := by decide +kernel
theorem dX5_init_145 : decode cX5_init 145 = .ok (.sipush 400, 3) := by decide +kernel
theorem dX5_init_148 : decode cX5_init 148 = .ok (.goto 4, 3) := by decide +kernel
theorem dX5_init_151 : decode cX5_init 151 = .ok (.iload_n 1, 1) := by decide +kernel
theorem dX5_init_152 : decode cX5_init 152 = .ok (.putfield 57, 3) := by decide +kernel
theorem dX5_init_155 : decode cX5_init 155 = .ok (.return_, 1) := by decide +kernel
theorem dX5_isTerm_0 : decode cX5_isTerm 0 = .ok (.iload_n 0, 1) := by decide +kernel
theorem dX5_isTerm_1 : decode cX5_isTerm 1 = .ok (.ifCond .lt 14, 3) := by decide +kernel
theorem dX5_isTerm_4 : decode cX5_isTerm 4 = .ok (.iload_n 0, 1) := by decide +kernel
theorem dX5_isTerm_5 : decode cX5_isTerm 5 = .ok (.sipush 1000, 3) := by decide +kernel
theorem dX5_isTerm_8 : decode cX5_isTerm 8 = .ok (.if_icmp .ge 7, 3) := by decide +kernel
theorem dX5_isTerm_11 : decode cX5_isTerm 11 = .ok (.iconst 1, 1) := by decide +kernel
theorem dX5_isTerm_12 : decode cX5_isTerm 12 = .ok (.goto 4, 3) := by decide +kernel
theorem dX5_isTerm_15 : decode cX5_isTerm 15 = .ok (.iconst 0, 1) := by decide +kernel
theorem dX5_isTerm_16 : decode cX5_isTerm 16 = .ok (.ireturn, 1) := by decide +kernel
theorem dX5_isAny_0 : decode cX5_isAny 0 = .ok (.iload_n 0, 1) := by decide +kernel
theorem dX5_isAny_1 : decode cX5_isAny 1 = .ok (.iconst (-1), 1) := by decide +kernel
theorem dX5_isAny_2 : decode cX5_isAny 2 = .ok (.if_icmp .lt 14, 3) := by decide +kernel
theorem dX5_isAny_5 : decode cX5_isAny 5 = .ok (.iload_n 0, 1) := by decide +kernel
theorem dX5_isAny_6 : decode cX5_isAny 6 = .ok (.sipush 1000, 3) := by decide +kernel
theorem dX5_isAny_9 : decode cX5_isAny 9 = .ok (.if_icmp .ge 7, 3) := by decide +kernel
theorem dX5_isAny_12 : decode cX5_isAny 12 = .ok (.iconst 1, 1) := by decide +kernel
theorem dX5_isAny_13 : decode cX5_isAny 13 = .ok (.goto 4, 3) := by decide +kernel
theorem dX5_isAny_16 : decode cX5_isAny 16 = .ok (.iconst 0, 1) := by decide +kernel
theorem dX5_isAny_17 : decode cX5_isAny 17 = .ok (.ireturn, 1) := by decide +kernel
theorem dX5_isOrder_0 : decode cX5_isOrder 0 = .ok (.iload_n 0, 1) := by decide +kernel
theorem dX5_isOrder_1 : decode cX5_isOrder 1 = .ok (.ifCond .lt 13, 3) := by decide +kernel
theorem dX5_isOrder_4 : decode cX5_isOrder 4 = .ok (.iload_n 0, 1) := by decide +kernel
theorem dX5_isOrder_5 : decode cX5_isOrder 5 = .ok (.bipush 6, 2) := by decide +kernel
theorem dX5_isOrder_7 : decode cX5_isOrder 7 = .ok (.if_icmp .ge 7, 3) := by decide +kernel
theorem dX5_isOrder_10 : decode cX5_isOrder 10 = .ok (.iconst 1, 1) := by decide +kernel
theorem dX5_isOrder_11 : decode cX5_isOrder 11 = .ok (.goto 4, 3) := by decide +kernel
theorem dX5_isOrder_14 : decode cX5_isOrder 14 = .ok (.iconst 0, 1) := by decide +kernel
theorem dX5_isOrder_15 : decode cX5_isOrder 15 = .ok (.ireturn, 1) := by decide +kernel
theorem dX5_isVersion_0 : decode cX5_isVersion 0 = .ok (.iload_n 0, 1) := by decide +kernel
theorem dX5_isVersion_1 : decode cX5_isVersion 1 = .ok (.ifCond .lt 13, 3) := by decide +kernel
theorem dX5_isVersion_4 : decode cX5_isVersion 4 = .ok (.iload_n 0, 1) := by decide +kernel
theorem dX5_isVersion_5 : decode cX5_isVersion 5 = .ok (.ldc 63, 2) := by decide +kernel
theorem dX5_isVersion_7 : decode cX5_isVersion 7 = .ok (.if_icmp .gt 7, 3) := by decide +kernel
theorem dX5_isVersion_10 : decode cX5_isVersion 10 = .ok (.iconst 1, 1) := by decide +kernel
theorem dX5_isVersion_11 : decode cX5_isVersion 11 = .ok (.goto 4, 3) := by decide +kernel
theorem dX5_isVersion_14 : decode cX5_isVersion 14 = .ok (.iconst 0, 1) := by decide +kernel
theorem dX5_isVersion_15 : decode cX5_isVersion 15 = .ok (.ireturn, 1) := by decide +kernel
theorem dX5_part_0 : decode cX5_part 0 = .ok (.iload_n 0, 1) := by decide +kernel
theorem dX5_part_1 : decode cX5_part 1 = .ok (.iconst 2, 1) := by decide +kernel
theorem dX5_part_2 : decode cX5_part 2 = .ok (.idiv, 1) := by decide +kernel
theorem dX5_part_3 : decode cX5_part 3 = .ok (.istore_n 2, 1) := by decide +kernel
theorem dX5_part_4 : decode cX5_part 4 = .ok (.iload_n 2, 1) := by decide +kernel
theorem dX5_part_5 : decode cX5_part 5 = .ok (.ifCond .ne 7, 3) := by decide +kernel
theorem dX5_part_8 : decode cX5_part 8 = .ok (.iconst 1, 1) := by decide +kernel
theorem dX5_part_9 : decode cX5_part 9 = .ok (.goto 4, 3) := by decide +kernel
theorem dX5_part_12 : decode cX5_part 12 = .ok (.iconst 0, 1) := by decide +kernel
theorem dX5_part_13 : decode cX5_part 13 = .ok (.istore_n 3, 1) := by decide +kernel
theorem dX5_part_14 : decode cX5_part 14 = .ok (.iconst 3, 1) := by decide +kernel
theorem dX5_part_15 : decode cX5_part 15 = .ok (.iload_n 2, 1) := by decide +kernel
theorem dX5_part_16 : decode cX5_part 16 = .ok (.isub, 1) := by decide +kernel
theorem dX5_part_17 : decode cX5_part 17 = .ok (.iload_n 3, 1) := by decide +kernel
theorem dX5_part_18 : decode cX5_part 18 = .ok (.isub, 1) := by decide +kernel
theorem dX5_part_19 : decode cX5_part 19 = .ok (.istore 4, 2) := by decide +kernel
theorem dX5_part_21 : decode cX5_part 21 = .ok (.iload_n 1, 1) := by decide +kernel
theorem dX5_part_22 : decode cX5_part 22 = .ok (.ifCond .ne 7, 3) := by decide +kernel
theorem dX5_part_25 : decode cX5_part 25 = .ok (.iload_n 2, 1) := by decide +kernel
theorem dX5_part_26 : decode cX5_part 26 = .ok (.goto 33, 3) := by decide +kernel
theorem dX5_part_29 : decode cX5_part 29 = .ok (.iload_n 1, 1) := by decide +kernel
theorem dX5_part_30 : decode cX5_part 30 = .ok (.iconst 1, 1) := by decide +kernel
theorem dX5_part_31 : decode cX5_part 31 = .ok (.if_icmp .ne 7, 3) := by decide +kernel
theorem dX5_part_34 : decode cX5_part 34 = .ok (.iconst 1, 1) := by decide +kernel
theorem dX5_part_35 : decode cX5_part 35 = .ok (.goto 4, 3) := by decide +kernel
theorem dX5_part_38 : decode cX5_part 38 = .ok (.iconst 0, 1) := by decide +kernel
theorem dX5_part_39 : decode cX5_part 39 = .ok (.iload_n 0, 1) := by decide +kernel
theorem dX5_part_40 : decode cX5_part 40 = .ok (.iconst 2, 1) := by decide +kernel
theorem dX5_part_41 : decode cX5_part 41 = .ok (.irem, 1) := by decide +kernel
theorem dX5_part_42 : decode cX5_part 42 = .ok (.ifCond .ne 7, 3) := by decide +kernel
theorem dX5_part_45 : decode cX5_part 45 = .ok (.iconst 1, 1) := by decide +kernel
theorem dX5_part_46 : decode cX5_part 46 = .ok (.goto 4, 3) := by decide +kernel
theorem dX5_part_49 : decode cX5_part 49 = .ok (.iconst 0, 1) := by decide +kernel
theorem dX5_part_50 : decode cX5_part 50 = .ok (.if_icmp .ne 7, 3) := by decide +kernel
theorem dX5_part_53 : decode cX5_part 53 = .ok (.iload_n 3, 1) := by decide +kernel
theorem dX5_part_54 : decode cX5_part 54 = .ok (.goto 5, 3) := by decide +kernel
theorem dX5_part_57 : decode cX5_part 57 = .ok (.iload 4, 2) := by decide +kernel
theorem dX5_part_59 : decode cX5_part 59 = .ok (.ireturn, 1) := by decide +kernel
theorem dX5_digits_0 : decode cX5_digits 0 = .ok (.iload_n 1, 1) := by decide +kernel
theorem dX5_digits_1 : decode cX5_digits 1 = .ok (.ifCond .ne 10, 3) := by decide +kernel
theorem dX5_digits_4 : decode cX5_digits 4 = .ok (.iload_n 0, 1) := by decide +kernel
theorem dX5_digits_5 : decode cX5_digits 5 = .ok (.ldc 63, 2) := by decide +kernel
theorem dX5_digits_7 : decode cX5_digits 7 = .ok (.idiv, 1) := by decide +kernel
theorem dX5_digits_8 : decode cX5_digits 8 = .ok (.goto 25, 3) := by decide +kernel
theorem dX5_digits_11 : decode cX5_digits 11 = .ok (.iload_n 1, 1) := by decide +kernel
theorem dX5_digits_12 : decode cX5_digits 12 = .ok (.iconst 1, 1) := by decide +kernel
theorem dX5_digits_13 : decode cX5_digits 13 = .ok (.if_icmp .ne 15, 3) := by decide +kernel
theorem dX5_digits_16 : decode cX5_digits 16 = .ok (.iload_n 0, 1) := by decide +kernel
theorem dX5_digits_17 : decode cX5_digits 17 = .ok (.sipush 1000, 3) := by decide +kernel
theorem dX5_digits_20 : decode cX5_digits 20 = .ok (.idiv, 1) := by decide +kernel
theorem dX5_digits_21 : decode cX5_digits 21 = .ok (.sipush 1000, 3) := by decide +kernel
theorem dX5_digits_24 : decode cX5_digits 24 = .ok (.irem, 1) := by decide +kernel
theorem dX5_digits_25 : decode cX5_digits 25 = .ok (.goto 8, 3) := by decide +kernel
theorem dX5_digits_28 : decode cX5_digits 28 = .ok (.iload_n 0, 1) := by decide +kernel
theorem dX5_digits_29 : decode cX5_digits 29 = .ok (.sipush 1000, 3) := by decide +kernel
theorem dX5_digits_32 : decode cX5_digits 32 = .ok (.irem, 1) := by decide +kernel
theorem dX5_digits_33 : decode cX5_digits 33 = .ok (.ireturn, 1) := by decide +kernel
theorem dX5_key_0 : decode cX5_key 0 = .ok (.iload_n 1, 1) := by decide +kernel
theorem dX5_key_1 : decode cX5_key 1 = .ok (.iload_n 0, 1) := by decide +kernel
theorem dX5_key_2 : decode cX5_key 2 = .ok (.iconst 0, 1) := by decide +kernel
theorem dX5_key_3 : decode cX5_key 3 = .ok (.invokestatic 64, 3) := by decide +kernel
theorem dX5_key_6 : decode cX5_key 6 = .ok (.invokestatic 68, 3) := by decide +kernel
theorem dX5_key_9 : decode cX5_key 9 = .ok (.ldc 63, 2) := by decide +kernel
theorem dX5_key_11 : decode cX5_key 11 = .ok (.imul, 1) := by decide +kernel
theorem dX5_key_12 : decode cX5_key 12 = .ok (.iload_n 1, 1) := by decide +kernel
theorem dX5_key_13 : decode cX5_key 13 = .ok (.iload_n 0, 1) := by decide +kernel
theorem dX5_key_14 : decode cX5_key 14 = .ok (.iconst 1, 1) := by decide +kernel
theorem dX5_key_15 : decode cX5_key 15 = .ok (.invokestatic 64, 3) := by decide +kernel
theorem dX5_key_18 : decode cX5_key 18 = .ok (.invokestatic 68, 3) := by decide +kernel
theorem dX5_key_21 : decode cX5_key 21 = .ok (.sipush 1000, 3) := by decide +kernel
theorem dX5_key_24 : decode cX5_key 24 = .ok (.imul, 1) := by decide +kernel
theorem dX5_key_25 : decode cX5_key 25 = .ok (.iadd, 1) := by decide +kernel
theorem dX5_key_26 : decode cX5_key 26 = .ok (.iload_n 1, 1) := by decide +kernel
theorem dX5_key_27 : decode cX5_key 27 = .ok (.iload_n 0, 1) := by decide +kernel
theorem dX5_key_28 : decode cX5_key 28 = .ok (.iconst 2, 1) := by decide +kernel
theorem dX5_key_29 : decode cX5_key 29 = .ok (.invokestatic 64, 3) := by decide +kernel
theorem dX5_key_32 : decode cX5_key 32 = .ok (.invokestatic 68, 3) := by decide +kernel
theorem dX5_key_35 : decode cX5_key 35 = .ok (.iadd, 1) := by decide +kernel
theorem dX5_key_36 : decode cX5_key 36 = .ok (.ireturn, 1) := by decide +kernel
theorem dX5_now_0 : decode cX5_now 0 = .ok (.aload_n 0, 1) := by decide +kernel
theorem dX5_now_1 : decode cX5_now 1 = .ok (.getfield 71, 3) := by decide +kernel
theorem dX5_now_4 : decode cX5_now 4 = .ok (.ifCond .ne 7, 3) := by decide +kernel
theorem dX5_now_7 : decode cX5_now 7 = .ok (.iconst 0, 1) := by decide +kernel
theorem dX5_now_8 : decode cX5_now 8 = .ok (.goto 14, 3) := by decide +kernel
theorem dX5_now_11 : decode cX5_now 11 = .ok (.aload_n 0, 1) := by decide +kernel
theorem dX5_now_12 : decode cX5_now 12 = .ok (.getfield 13, 3) := by decide +kernel
theorem dX5_now_15 : decode cX5_now 15 = .ok (.aload_n 0, 1) := by decide +kernel
theorem dX5_now_16 : decode cX5_now 16 = .ok (.getfield 71, 3) := by decide +kernel
theorem dX5_now_19 : decode cX5_now 19 = .ok (.iconst 1, 1) := by decide +kernel
theorem dX5_now_20 : decode cX5_now 20 = .ok (.isub, 1) := by decide +kernel
theorem dX5_now_21 : decode cX5_now 21 = .ok (.iaload, 1) := by decide +kernel
theorem dX5_now_22 : decode cX5_now 22 = .ok (.istore_n 1, 1) := by decide +kernel
theorem dX5_now_23 : decode cX5_now 23 = .ok (.iload_n 1, 1) := by decide +kernel
theorem dX5_now_24 : decode cX5_now 24 = .ok (.aload_n 0, 1) := by decide +kernel
theorem dX5_now_25 : decode cX5_now 25 = .ok (.getfield 20, 3) := by decide +kernel
theorem dX5_now_28 : decode cX5_now 28 = .ok (.if_icmp .ge 10, 3) := by decide +kernel
theorem dX5_now_31 : decode cX5_now 31 = .ok (.aload_n 0, 1) := by decide +kernel
theorem dX5_now_32 : decode cX5_now 32 = .ok (.getfield 20, 3) := by decide +kernel
theorem dX5_now_35 : decode cX5_now 35 = .ok (.goto 4, 3) := by decide +kernel
theorem dX5_now_38 : decode cX5_now 38 = .ok (.iload_n 1, 1) := by decide +kernel
theorem dX5_now_39 : decode cX5_now 39 = .ok (.ireturn, 1) := by decide +kernel
theorem dX5_isLatest_0 : decode cX5_isLatest 0 = .ok (.aload_n 0, 1) := by decide +kernel
theorem dX5_isLatest_1 : decode cX5_isLatest 1 = .ok (.getfield 13, 3) := by decide +kernel
theorem dX5_isLatest_4 : decode cX5_isLatest 4 = .ok (.iload_n 1, 1) := by decide +kernel
theorem dX5_isLatest_5 : decode cX5_isLatest 5 = .ok (.iaload, 1) := by decide +kernel
theorem dX5_isLatest_6 : decode cX5_isLatest 6 = .ok (.iload_n 2, 1) := by decide +kernel
theorem dX5_isLatest_7 : decode cX5_isLatest 7 = .ok (.if_icmp .gt 7, 3) := by decide +kernel
theorem dX5_isLatest_10 : decode cX5_isLatest 10 = .ok (.iconst 1, 1) := by decide +kernel
theorem dX5_isLatest_11 : decode cX5_isLatest 11 = .ok (.goto 4, 3) := by decide +kernel
theorem dX5_isLatest_14 : decode cX5_isLatest 14 = .ok (.iconst 0, 1) := by decide +kernel
theorem dX5_isLatest_15 : decode cX5_isLatest 15 = .ok (.istore_n 3, 1) := by decide +kernel
theorem dX5_isLatest_16 : decode cX5_isLatest 16 = .ok (.iload_n 1, 1) := by decide +kernel
theorem dX5_isLatest_17 : decode cX5_isLatest 17 = .ok (.iconst 1, 1) := by decide +kernel
theorem dX5_isLatest_18 : decode cX5_isLatest 18 = .ok (.iadd, 1) := by decide +kernel
theorem dX5_isLatest_19 : decode cX5_isLatest 19 = .ok (.istore 4, 2) := by decide +kernel
theorem dX5_isLatest_21 : decode cX5_isLatest 21 = .ok (.iload 4, 2) := by decide +kernel
theorem dX5_isLatest_23 : decode cX5_isLatest 23 = .ok (.aload_n 0, 1) := by decide +kernel
theorem dX5_isLatest_24 : decode cX5_isLatest 24 = .ok (.getfield 71, 3) := by decide +kernel
theorem dX5_isLatest_27 : decode cX5_isLatest 27 = .ok (.if_icmp .ge 46, 3) := by decide +kernel
theorem dX5_isLatest_30 : decode cX5_isLatest 30 = .ok (.iload_n 3, 1) := by decide +kernel
theorem dX5_isLatest_31 : decode cX5_isLatest 31 = .ok (.ifCond .eq 42, 3) := by decide +kernel
theorem dX5_isLatest_34 : decode cX5_isLatest 34 = .ok (.aload_n 0, 1) := by decide +kernel
theorem dX5_isLatest_35 : decode cX5_isLatest 35 = .ok (.getfield 7, 3) := by decide +kernel
theorem dX5_isLatest_38 : decode cX5_isLatest 38 = .ok (.iload 4, 2) := by decide +kernel
theorem dX5_isLatest_40 : decode cX5_isLatest 40 = .ok (.iaload, 1) := by decide +kernel
theorem dX5_isLatest_41 : decode cX5_isLatest 41 = .ok (.aload_n 0, 1) := by decide +kernel
theorem dX5_isLatest_42 : decode cX5_isLatest 42 = .ok (.getfield 7, 3) := by decide +kernel
theorem dX5_isLatest_45 : decode cX5_isLatest 45 = .ok (.iload_n 1, 1) := by decide +kernel
theorem dX5_isLatest_46 : decode cX5_isLatest 46 = .ok (.iaload, 1) := by decide +kernel
theorem dX5_isLatest_47 : decode cX5_isLatest 47 = .ok (.if_icmp .ne 14, 3) := by decide +kernel
theorem dX5_isLatest_50 : decode cX5_isLatest 50 = .ok (.aload_n 0, 1) := by decide +kernel
theorem dX5_isLatest_51 : decode cX5_isLatest 51 = .ok (.getfield 13, 3) := by decide +kernel
theorem dX5_isLatest_54 : decode cX5_isLatest 54 = .ok (.iload 4, 2) := by decide +kernel
theorem dX5_isLatest_56 : decode cX5_isLatest 56 = .ok (.iaload, 1) := by decide +kernel
theorem dX5_isLatest_57 : decode cX5_isLatest 57 = .ok (.iload_n 2, 1) := by decide +kernel
theorem dX5_isLatest_58 : decode cX5_isLatest 58 = .ok (.if_icmp .le 7, 3) := by decide +kernel
theorem dX5_isLatest_61 : decode cX5_isLatest 61 = .ok (.iconst 1, 1) := by decide +kernel
theorem dX5_isLatest_62 : decode cX5_isLatest 62 = .ok (.goto 4, 3) := by decide +kernel
theorem dX5_isLatest_65 : decode cX5_isLatest 65 = .ok (.iconst 0, 1) := by decide +kernel
theorem dX5_isLatest_66 : decode cX5_isLatest 66 = .ok (.istore_n 3, 1) := by decide +kernel
theorem dX5_isLatest_67 : decode cX5_isLatest 67 = .ok (.iinc 4 1, 3) := by decide +kernel
theorem dX5_isLatest_70 : decode cX5_isLatest 70 = .ok (.goto (-49), 3) := by decide +kernel
theorem dX5_isLatest_73 : decode cX5_isLatest 73 = .ok (.iload_n 3, 1) := by decide +kernel
theorem dX5_isLatest_74 : decode cX5_isLatest 74 = .ok (.ireturn, 1) := by decide +kernel
theorem dX5_isThere_0 : decode cX5_isThere 0 = .ok (.iconst 0, 1) := by decide +kernel
theorem dX5_isThere_1 : decode cX5_isThere 1 = .ok (.istore_n 2, 1) := by decide +kernel
theorem dX5_isThere_2 : decode cX5_isThere 2 = .ok (.iconst 0, 1) := by decide +kernel
theorem dX5_isThere_3 : decode cX5_isThere 3 = .ok (.istore_n 3, 1) := by decide +kernel
theorem dX5_isThere_4 : decode cX5_isThere 4 = .ok (.iload_n 3, 1) := by decide +kernel
theorem dX5_isThere_5 : decode cX5_isThere 5 = .ok (.aload_n 0, 1) := by decide +kernel
theorem dX5_isThere_6 : decode cX5_isThere 6 = .ok (.getfield 71, 3) := by decide +kernel
theorem dX5_isThere_9 : decode cX5_isThere 9 = .ok (.if_icmp .ge 30, 3) := by decide +kernel
theorem dX5_isThere_12 : decode cX5_isThere 12 = .ok (.aload_n 0, 1) := by decide +kernel
theorem dX5_isThere_13 : decode cX5_isThere 13 = .ok (.getfield 7, 3) := by decide +kernel
theorem dX5_isThere_16 : decode cX5_isThere 16 = .ok (.iload_n 3, 1) := by decide +kernel
theorem dX5_isThere_17 : decode cX5_isThere 17 = .ok (.iaload, 1) := by decide +kernel
theorem dX5_isThere_18 : decode cX5_isThere 18 = .ok (.iload_n 1, 1) := by decide +kernel
theorem dX5_isThere_19 : decode cX5_isThere 19 = .ok (.if_icmp .ne 12, 3) := by decide +kernel
theorem dX5_isThere_22 : decode cX5_isThere 22 = .ok (.aload_n 0, 1) := by decide +kernel
theorem dX5_isThere_23 : decode cX5_isThere 23 = .ok (.getfield 16, 3) := by decide +kernel
theorem dX5_isThere_26 : decode cX5_isThere 26 = .ok (.iload_n 3, 1) := by decide +kernel
theorem dX5_isThere_27 : decode cX5_isThere 27 = .ok (.baload, 1) := by decide +kernel
theorem dX5_isThere_28 : decode cX5_isThere 28 = .ok (.goto 4, 3) := by decide +kernel
theorem dX5_isThere_31 : decode cX5_isThere 31 = .ok (.iload_n 2, 1) := by decide +kernel
theorem dX5_isThere_32 : decode cX5_isThere 32 = .ok (.istore_n 2, 1) := by decide +kernel
theorem dX5_isThere_33 : decode cX5_isThere 33 = .ok (.iinc 3 1, 3) := by decide +kernel
theorem dX5_isThere_36 : decode cX5_isThere 36 = .ok (.goto (-32), 3) := by decide +kernel
theorem dX5_isThere_39 : decode cX5_isThere 39 = .ok (.iload_n 2, 1) := by decide +kernel
theorem dX5_isThere_40 : decode cX5_isThere 40 = .ok (.ireturn, 1) := by decide +kernel
theorem dX5_insert_0 : decode cX5_insert 0 = .ok (.sipush 400, 3) := by decide +kernel
theorem dX5_insert_3 : decode cX5_insert 3 = .ok (.iload_n 1, 1) := by decide +kernel
theorem dX5_insert_4 : decode cX5_insert 4 = .ok (.imul, 1) := by decide +kernel
theorem dX5_insert_5 : decode cX5_insert 5 = .ok (.istore_n 3, 1) := by decide +kernel
theorem dX5_insert_6 : decode cX5_insert 6 = .ok (.iconst 0, 1) := by decide +kernel
theorem dX5_insert_7 : decode cX5_insert 7 = .ok (.istore 4, 2) := by decide +kernel
theorem dX5_insert_9 : decode cX5_insert 9 = .ok (.iconst 0, 1) := by decide +kernel
theorem dX5_insert_10 : decode cX5_insert 10 = .ok (.istore 5, 2) := by decide +kernel
theorem dX5_insert_12 : decode cX5_insert 12 = .ok (.iconst 0, 1) := by decide +kernel
theorem dX5_insert_13 : decode cX5_insert 13 = .ok (.istore 6, 2) := by decide +kernel
theorem dX5_insert_15 : decode cX5_insert 15 = .ok (.iload 6, 2) := by decide +kernel
theorem dX5_insert_17 : decode cX5_insert 17 = .ok (.aload_n 0, 1) := by decide +kernel
theorem dX5_insert_18 : decode cX5_insert 18 = .ok (.getfield 30, 3) := by decide +kernel
theorem dX5_insert_21 : decode cX5_insert 21 = .ok (.iload_n 1, 1) := by decide +kernel
theorem dX5_insert_22 : decode cX5_insert 22 = .ok (.iaload, 1) := by decide +kernel
theorem dX5_insert_23 : decode cX5_insert 23 = .ok (.if_icmp .ge 45, 3) := by decide +kernel
theorem dX5_insert_26 : decode cX5_insert 26 = .ok (.aload_n 0, 1) := by decide +kernel
theorem dX5_insert_27 : decode cX5_insert 27 = .ok (.getfield 24, 3) := by decide +kernel
theorem dX5_insert_30 : decode cX5_insert 30 = .ok (.iload_n 3, 1) := by decide +kernel
theorem dX5_insert_31 : decode cX5_insert 31 = .ok (.iload 5, 2) := by decide +kernel
theorem dX5_insert_33 : decode cX5_insert 33 = .ok (.iadd, 1) := by decide +kernel
theorem dX5_insert_34 : decode cX5_insert 34 = .ok (.iaload, 1) := by decide +kernel
theorem dX5_insert_35 : decode cX5_insert 35 = .ok (.iload_n 2, 1) := by decide +kernel
theorem dX5_insert_36 : decode cX5_insert 36 = .ok (.if_icmp .gt 8, 3) := by decide +kernel
theorem dX5_insert_39 : decode cX5_insert 39 = .ok (.iload 6, 2) := by decide +kernel
theorem dX5_insert_41 : decode cX5_insert 41 = .ok (.goto 5, 3) := by decide +kernel
theorem dX5_insert_44 : decode cX5_insert 44 = .ok (.iload 4, 2) := by decide +kernel
theorem dX5_insert_46 : decode cX5_insert 46 = .ok (.istore 4, 2) := by decide +kernel
theorem dX5_insert_48 : decode cX5_insert 48 = .ok (.iload 5, 2) := by decide +kernel
theorem dX5_insert_50 : decode cX5_insert 50 = .ok (.aload_n 0, 1) := by decide +kernel
theorem dX5_insert_51 : decode cX5_insert 51 = .ok (.getfield 27, 3) := by decide +kernel
theorem dX5_insert_54 : decode cX5_insert 54 = .ok (.iload_n 3, 1) := by decide +kernel
theorem dX5_insert_55 : decode cX5_insert 55 = .ok (.iload 6, 2) := by decide +kernel
theorem dX5_insert_57 : decode cX5_insert 57 = .ok (.iadd, 1) := by decide +kernel
theorem dX5_insert_58 : decode cX5_insert 58 = .ok (.iaload, 1) := by decide +kernel
theorem dX5_insert_59 : decode cX5_insert 59 = .ok (.iadd, 1) := by decide +kernel
theorem dX5_insert_60 : decode cX5_insert 60 = .ok (.istore 5, 2) := by decide +kernel
theorem dX5_insert_62 : decode cX5_insert 62 = .ok (.iinc 6 1, 3) := by decide +kernel
theorem dX5_insert_65 : decode cX5_insert 65 = .ok (.goto (-50), 3) := by decide +kernel
theorem dX5_insert_68 : decode cX5_insert 68 = .ok (.aload_n 0, 1) := by decide +kernel
theorem dX5_insert_69 : decode cX5_insert 69 = .ok (.getfield 74, 3) := by decide +kernel
theorem dX5_insert_72 : decode cX5_insert 72 = .ok (.istore 6, 2) := by decide +kernel
theorem dX5_insert_74 : decode cX5_insert 74 = .ok (.iload 6, 2) := by decide +kernel
theorem dX5_insert_76 : decode cX5_insert 76 = .ok (.ifCond .le 44, 3) := by decide +kernel
theorem dX5_insert_79 : decode cX5_insert 79 = .ok (.aload_n 0, 1) := by decide +kernel
theorem dX5_insert_80 : decode cX5_insert 80 = .ok (.getfield 24, 3) := by decide +kernel
theorem dX5_insert_83 : decode cX5_insert 83 = .ok (.iload_n 3, 1) := by decide +kernel
theorem dX5_insert_84 : decode cX5_insert 84 = .ok (.iload 6, 2) := by decide +kernel
theorem dX5_insert_86 : decode cX5_insert 86 = .ok (.iadd, 1) := by decide +kernel
theorem dX5_insert_87 : decode cX5_insert 87 = .ok (.iconst 1, 1) := by decide +kernel
theorem dX5_insert_88 : decode cX5_insert 88 = .ok (.isub, 1) := by decide +kernel
theorem dX5_insert_89 : decode cX5_insert 89 = .ok (.iaload, 1) := by decide +kernel
theorem dX5_insert_90 : decode cX5_insert 90 = .ok (.iload_n 2, 1) := by decide +kernel
theorem dX5_insert_91 : decode cX5_insert 91 = .ok (.if_icmp .le 29, 3) := by decide +kernel
theorem dX5_insert_94 : decode cX5_insert 94 = .ok (.aload_n 0, 1) := by decide +kernel
theorem dX5_insert_95 : decode cX5_insert 95 = .ok (.getfield 24, 3) := by decide +kernel
theorem dX5_insert_98 : decode cX5_insert 98 = .ok (.iload_n 3, 1) := by decide +kernel
theorem dX5_insert_99 : decode cX5_insert 99 = .ok (.iload 6, 2) := by decide +kernel
theorem dX5_insert_101 : decode cX5_insert 101 = .ok (.iadd, 1) := by decide +kernel
theorem dX5_insert_102 : decode cX5_insert 102 = .ok (.aload_n 0, 1) := by decide +kernel
theorem dX5_insert_103 : decode cX5_insert 103 = .ok (.getfield 24, 3) := by decide +kernel
theorem dX5_insert_106 : decode cX5_insert 106 = .ok (.iload_n 3, 1) := by decide +kernel
theorem dX5_insert_107 : decode cX5_insert 107 = .ok (.iload 6, 2) := by decide +kernel
theorem dX5_insert_109 : decode cX5_insert 109 = .ok (.iadd, 1) := by decide +kernel
theorem dX5_insert_110 : decode cX5_insert 110 = .ok (.iconst 1, 1) := by decide +kernel
theorem dX5_insert_111 : decode cX5_insert 111 = .ok (.isub, 1) := by decide +kernel
theorem dX5_insert_112 : decode cX5_insert 112 = .ok (.iaload, 1) := by decide +kernel
theorem dX5_insert_113 : decode cX5_insert 113 = .ok (.iastore, 1) := by decide +kernel
theorem dX5_insert_114 : decode cX5_insert 114 = .ok (.iinc 6 (-1), 3) := by decide +kernel
theorem dX5_insert_117 : decode cX5_insert 117 = .ok (.goto (-43), 3) := by decide +kernel
theorem dX5_insert_120 : decode cX5_insert 120 = .ok (.aload_n 0, 1) := by decide +kernel
theorem dX5_insert_121 : decode cX5_insert 121 = .ok (.getfield 24, 3) := by decide +kernel
theorem dX5_insert_124 : decode cX5_insert 124 = .ok (.iload_n 3, 1) := by decide +kernel
theorem dX5_insert_125 : decode cX5_insert 125 = .ok (.iload 6, 2) := by decide +kernel
theorem dX5_insert_127 : decode cX5_insert 127 = .ok (.iadd, 1) := by decide +kernel
theorem dX5_insert_128 : decode cX5_insert 128 = .ok (.iload_n 2, 1) := by decide +kernel
theorem dX5_insert_129 : decode cX5_insert 129 = .ok (.iastore, 1) := by decide +kernel
theorem dX5_insert_130 : decode cX5_insert 130 = .ok (.aload_n 0, 1) := by decide +kernel
theorem dX5_insert_131 : decode cX5_insert 131 = .ok (.getfield 30, 3) := by decide +kernel
theorem dX5_insert_134 : decode cX5_insert 134 = .ok (.iload_n 1, 1) := by decide +kernel
theorem dX5_insert_135 : decode cX5_insert 135 = .ok (.iaload, 1) := by decide +kernel
theorem dX5_insert_136 : decode cX5_insert 136 = .ok (.ifCond .ne 17, 3) := by decide +kernel
theorem dX5_insert_139 : decode cX5_insert 139 = .ok (.aload_n 0, 1) := by decide +kernel
theorem dX5_insert_140 : decode cX5_insert 140 = .ok (.getfield 30, 3) := by decide +kernel
theorem dX5_insert_143 : decode cX5_insert 143 = .ok (.iload_n 1, 1) := by decide +kernel
theorem dX5_insert_144 : decode cX5_insert 144 = .ok (.iconst 1, 1) := by decide +kernel
theorem dX5_insert_145 : decode cX5_insert 145 = .ok (.iastore, 1) := by decide +kernel
theorem dX5_insert_146 : decode cX5_insert 146 = .ok (.aload_n 0, 1) := by decide +kernel
theorem dX5_insert_147 : decode cX5_insert 147 = .ok (.getfield 27, 3) := by decide +kernel
theorem dX5_insert_150 : decode cX5_insert 150 = .ok (.iload_n 3, 1) := by decide +kernel
theorem dX5_insert_151 : decode cX5_insert 151 = .ok (.iconst 0, 1) := by decide +kernel
theorem dX5_insert_152 : decode cX5_insert 152 = .ok (.iastore, 1) := by decide +kernel
theorem dX5_insert_153 : decode cX5_insert 153 = .ok (.aload_n 0, 1) := by decide +kernel
theorem dX5_insert_154 : decode cX5_insert 154 = .ok (.getfield 27, 3) := by decide +kernel
theorem dX5_insert_157 : decode cX5_insert 157 = .ok (.iload_n 3, 1) := by decide +kernel
theorem dX5_insert_158 : decode cX5_insert 158 = .ok (.iload 4, 2) := by decide +kernel
theorem dX5_insert_160 : decode cX5_insert 160 = .ok (.iadd, 1) := by decide +kernel
theorem dX5_insert_161 : decode cX5_insert 161 = .ok (.dup2, 1) := by decide +kernel
theorem dX5_insert_162 : decode cX5_insert 162 = .ok (.iaload, 1) := by decide +kernel
theorem dX5_insert_163 : decode cX5_insert 163 = .ok (.iconst 1, 1) := by decide +kernel
theorem dX5_insert_164 : decode cX5_insert 164 = .ok (.iadd, 1) := by decide +kernel
theorem dX5_insert_165 : decode cX5_insert 165 = .ok (.iastore, 1) := by decide +kernel
theorem dX5_insert_166 : decode cX5_insert 166 = .ok (.aload_n 0, 1) := by decide +kernel
theorem dX5_insert_167 : decode cX5_insert 167 = .ok (.getfield 27, 3) := by decide +kernel
theorem dX5_insert_170 : decode cX5_insert 170 = .ok (.iload_n 3, 1) := by decide +kernel
theorem dX5_insert_171 : decode cX5_insert 171 = .ok (.iload 4, 2) := by decide +kernel
theorem dX5_insert_173 : decode cX5_insert 173 = .ok (.iadd, 1) := by decide +kernel
theorem dX5_insert_174 : decode cX5_insert 174 = .ok (.iaload, 1) := by decide +kernel
theorem dX5_insert_175 : decode cX5_insert 175 = .ok (.bipush 16, 2) := by decide +kernel
theorem dX5_insert_177 : decode cX5_insert 177 = .ok (.if_icmp .le 80, 3) := by decide +kernel
theorem dX5_insert_180 : decode cX5_insert 180 = .ok (.aload_n 0, 1) := by decide +kernel
theorem dX5_insert_181 : decode cX5_insert 181 = .ok (.getfield 30, 3) := by decide +kernel
theorem dX5_insert_184 : decode cX5_insert 184 = .ok (.iload_n 1, 1) := by decide +kernel
theorem dX5_insert_185 : decode cX5_insert 185 = .ok (.iaload, 1) := by decide +kernel
theorem dX5_insert_186 : decode cX5_insert 186 = .ok (.istore 7, 2) := by decide +kernel
theorem dX5_insert_188 : decode cX5_insert 188 = .ok (.iload 7, 2) := by decide +kernel
theorem dX5_insert_190 : decode cX5_insert 190 = .ok (.iload 4, 2) := by decide +kernel
theorem dX5_insert_192 : decode cX5_insert 192 = .ok (.iconst 1, 1) := by decide +kernel
theorem dX5_insert_193 : decode cX5_insert 193 = .ok (.iadd, 1) := by decide +kernel
theorem dX5_insert_194 : decode cX5_insert 194 = .ok (.if_icmp .le 29, 3) := by decide +kernel
theorem dX5_insert_197 : decode cX5_insert 197 = .ok (.aload_n 0, 1) := by decide +kernel
theorem dX5_insert_198 : decode cX5_insert 198 = .ok (.getfield 27, 3) := by decide +kernel
theorem dX5_insert_201 : decode cX5_insert 201 = .ok (.iload_n 3, 1) := by decide +kernel
theorem dX5_insert_202 : decode cX5_insert 202 = .ok (.iload 7, 2) := by decide +kernel
theorem dX5_insert_204 : decode cX5_insert 204 = .ok (.iadd, 1) := by decide +kernel
theorem dX5_insert_205 : decode cX5_insert 205 = .ok (.aload_n 0, 1) := by decide +kernel
theorem dX5_insert_206 : decode cX5_insert 206 = .ok (.getfield 27, 3) := by decide +kernel
theorem dX5_insert_209 : decode cX5_insert 209 = .ok (.iload_n 3, 1) := by decide +kernel
theorem dX5_insert_210 : decode cX5_insert 210 = .ok (.iload 7, 2) := by decide +kernel
theorem dX5_insert_212 : decode cX5_insert 212 = .ok (.iadd, 1) := by decide +kernel
theorem dX5_insert_213 : decode cX5_insert 213 = .ok (.iconst 1, 1) := by decide +kernel
theorem dX5_insert_214 : decode cX5_insert 214 = .ok (.isub, 1) := by decide +kernel
theorem dX5_insert_215 : decode cX5_insert 215 = .ok (.iaload, 1) := by decide +kernel
theorem dX5_insert_216 : decode cX5_insert 216 = .ok (.iastore, 1) := by decide +kernel
theorem dX5_insert_217 : decode cX5_insert 217 = .ok (.iinc 7 (-1), 3) := by decide +kernel
theorem dX5_insert_220 : decode cX5_insert 220 = .ok (.goto (-32), 3) := by decide +kernel
theorem dX5_insert_223 : decode cX5_insert 223 = .ok (.aload_n 0, 1) := by decide +kernel
theorem dX5_insert_224 : decode cX5_insert 224 = .ok (.getfield 27, 3) := by decide +kernel
theorem dX5_insert_227 : decode cX5_insert 227 = .ok (.iload_n 3, 1) := by decide +kernel
theorem dX5_insert_228 : decode cX5_insert 228 = .ok (.iload 4, 2) := by decide +kernel
theorem dX5_insert_230 : decode cX5_insert 230 = .ok (.iadd, 1) := by decide +kernel
theorem dX5_insert_231 : decode cX5_insert 231 = .ok (.iconst 1, 1) := by decide +kernel
theorem dX5_insert_232 : decode cX5_insert 232 = .ok (.iadd, 1) := by decide +kernel
theorem dX5_insert_233 : decode cX5_insert 233 = .ok (.bipush 8, 2) := by decide +kernel
theorem dX5_insert_235 : decode cX5_insert 235 = .ok (.iastore, 1) := by decide +kernel
theorem dX5_insert_236 : decode cX5_insert 236 = .ok (.aload_n 0, 1) := by decide +kernel
theorem dX5_insert_237 : decode cX5_insert 237 = .ok (.getfield 27, 3) := by decide +kernel
theorem dX5_insert_240 : decode cX5_insert 240 = .ok (.iload_n 3, 1) := by decide +kernel
theorem dX5_insert_241 : decode cX5_insert 241 = .ok (.iload 4, 2) := by decide +kernel
theorem dX5_insert_243 : decode cX5_insert 243 = .ok (.iadd, 1) := by decide +kernel
theorem dX5_insert_244 : decode cX5_insert 244 = .ok (.bipush 9, 2) := by decide +kernel
theorem dX5_insert_246 : decode cX5_insert 246 = .ok (.iastore, 1) := by decide +kernel
theorem dX5_insert_247 : decode cX5_insert 247 = .ok (.aload_n 0, 1) := by decide +kernel
theorem dX5_insert_248 : decode cX5_insert 248 = .ok (.getfield 30, 3) := by decide +kernel
theorem dX5_insert_251 : decode cX5_insert 251 = .ok (.iload_n 1, 1) := by decide +kernel
theorem dX5_insert_252 : decode cX5_insert 252 = .ok (.dup2, 1) := by decide +kernel
theorem dX5_insert_253 : decode cX5_insert 253 = .ok (.iaload, 1) := by decide +kernel
theorem dX5_insert_254 : decode cX5_insert 254 = .ok (.iconst 1, 1) := by decide +kernel
theorem dX5_insert_255 : decode cX5_insert 255 = .ok (.iadd, 1) := by decide +kernel
theorem dX5_insert_256 : decode cX5_insert 256 = .ok (.iastore, 1) := by decide +kernel
theorem dX5_insert_257 : decode cX5_insert 257 = .ok (.return_, 1) := by decide +kernel
theorem dX5_dropPage_0 : decode cX5_dropPage 0 = .ok (.iload_n 2, 1) := by decide +kernel
theorem dX5_dropPage_1 : decode cX5_dropPage 1 = .ok (.istore_n 3, 1) := by decide +kernel
theorem dX5_dropPage_2 : decode cX5_dropPage 2 = .ok (.iload_n 3, 1) := by decide +kernel
theorem dX5_dropPage_3 : decode cX5_dropPage 3 = .ok (.iconst 1, 1) := by decide +kernel
theorem dX5_dropPage_4 : decode cX5_dropPage 4 = .ok (.iadd, 1) := by decide +kernel
theorem dX5_dropPage_5 : decode cX5_dropPage 5 = .ok (.aload_n 0, 1) := by decide +kernel
theorem dX5_dropPage_6 : decode cX5_dropPage 6 = .ok (.getfield 30, 3) := by decide +kernel
theorem dX5_dropPage_9 : decode cX5_dropPage 9 = .ok (.iload_n 1, 1) := by decide +kernel
theorem dX5_dropPage_10 : decode cX5_dropPage 10 = .ok (.iaload, 1) := by decide +kernel
theorem dX5_dropPage_11 : decode cX5_dropPage 11 = .ok (.if_icmp .ge 35, 3) := by decide +kernel
theorem dX5_dropPage_14 : decode cX5_dropPage 14 = .ok (.aload_n 0, 1) := by decide +kernel
theorem dX5_dropPage_15 : decode cX5_dropPage 15 = .ok (.getfield 27, 3) := by decide +kernel
theorem dX5_dropPage_18 : decode cX5_dropPage 18 = .ok (.sipush 400, 3) := by decide +kernel
theorem dX5_dropPage_21 : decode cX5_dropPage 21 = .ok (.iload_n 1, 1) := by decide +kernel
theorem dX5_dropPage_22 : decode cX5_dropPage 22 = .ok (.imul, 1) := by decide +kernel
theorem dX5_dropPage_23 : decode cX5_dropPage 23 = .ok (.iload_n 3, 1) := by decide +kernel
theorem dX5_dropPage_24 : decode cX5_dropPage 24 = .ok (.iadd, 1) := by decide +kernel
theorem dX5_dropPage_25 : decode cX5_dropPage 25 = .ok (.aload_n 0, 1) := by decide +kernel
theorem dX5_dropPage_26 : decode cX5_dropPage 26 = .ok (.getfield 27, 3) := by decide +kernel
theorem dX5_dropPage_29 : decode cX5_dropPage 29 = .ok (.sipush 400, 3) := by decide +kernel
theorem dX5_dropPage_32 : decode cX5_dropPage 32 = .ok (.iload_n 1, 1) := by decide +kernel
theorem dX5_dropPage_33 : decode cX5_dropPage 33 = .ok (.imul, 1) := by decide +kernel
theorem dX5_dropPage_34 : decode cX5_dropPage 34 = .ok (.iload_n 3, 1) := by decide +kernel
theorem dX5_dropPage_35 : decode cX5_dropPage 35 = .ok (.iadd, 1) := by decide +kernel
theorem dX5_dropPage_36 : decode cX5_dropPage 36 = .ok (.iconst 1, 1) := by decide +kernel
theorem dX5_dropPage_37 : decode cX5_dropPage 37 = .ok (.iadd, 1) := by decide +kernel
theorem dX5_dropPage_38 : decode cX5_dropPage 38 = .ok (.iaload, 1) := by decide +kernel
theorem dX5_dropPage_39 : decode cX5_dropPage 39 = .ok (.iastore, 1) := by decide +kernel
theorem dX5_dropPage_40 : decode cX5_dropPage 40 = .ok (.iinc 3 1, 3) := by decide +kernel
theorem dX5_dropPage_43 : decode cX5_dropPage 43 = .ok (.goto (-41), 3) := by decide +kernel
theorem dX5_dropPage_46 : decode cX5_dropPage 46 = .ok (.aload_n 0, 1) := by decide +kernel
theorem dX5_dropPage_47 : decode cX5_dropPage 47 = .ok (.getfield 30, 3) := by decide +kernel
theorem dX5_dropPage_50 : decode cX5_dropPage 50 = .ok (.iload_n 1, 1) := by decide +kernel
theorem dX5_dropPage_51 : decode cX5_dropPage 51 = .ok (.dup2, 1) := by decide +kernel
theorem dX5_dropPage_52 : decode cX5_dropPage 52 = .ok (.iaload, 1) := by decide +kernel
theorem dX5_dropPage_53 : decode cX5_dropPage 53 = .ok (.iconst 1, 1) := by decide +kernel
theorem dX5_dropPage_54 : decode cX5_dropPage 54 = .ok (.isub, 1) := by decide +kernel
theorem dX5_dropPage_55 : decode cX5_dropPage 55 = .ok (.iastore, 1) := by decide +kernel
theorem dX5_dropPage_56 : decode cX5_dropPage 56 = .ok (.return_, 1) := by decide +kernel
theorem dX5_takeOut_0 : decode cX5_takeOut 0 = .ok (.sipush 400, 3) := by decide +kernel
theorem dX5_takeOut_3 : decode cX5_takeOut 3 = .ok (.iload_n 1, 1) := by decide +kernel
theorem dX5_takeOut_4 : decode cX5_takeOut 4 = .ok (.imul, 1) := by decide +kernel
theorem dX5_takeOut_5 : decode cX5_takeOut 5 = .ok (.istore_n 3, 1) := by decide +kernel
theorem dX5_takeOut_6 : decode cX5_takeOut 6 = .ok (.iconst 0, 1) := by decide +kernel
theorem dX5_takeOut_7 : decode cX5_takeOut 7 = .ok (.istore 4, 2) := by decide +kernel
theorem dX5_takeOut_9 : decode cX5_takeOut 9 = .ok (.aload_n 0, 1) := by decide +kernel
theorem dX5_takeOut_10 : decode cX5_takeOut 10 = .ok (.getfield 24, 3) := by decide +kernel
theorem dX5_takeOut_13 : decode cX5_takeOut 13 = .ok (.iload_n 3, 1) := by decide +kernel
theorem dX5_takeOut_14 : decode cX5_takeOut 14 = .ok (.iload 4, 2) := by decide +kernel
theorem dX5_takeOut_16 : decode cX5_takeOut 16 = .ok (.iadd, 1) := by decide +kernel
theorem dX5_takeOut_17 : decode cX5_takeOut 17 = .ok (.iaload, 1) := by decide +kernel
theorem dX5_takeOut_18 : decode cX5_takeOut 18 = .ok (.iload_n 2, 1) := by decide +kernel
theorem dX5_takeOut_19 : decode cX5_takeOut 19 = .ok (.if_icmp .eq 9, 3) := by decide +kernel
theorem dX5_takeOut_22 : decode cX5_takeOut 22 = .ok (.iinc 4 1, 3) := by decide +kernel
theorem dX5_takeOut_25 : decode cX5_takeOut 25 = .ok (.goto (-16), 3) := by decide +kernel
theorem dX5_takeOut_28 : decode cX5_takeOut 28 = .ok (.iconst 0, 1) := by decide +kernel
theorem dX5_takeOut_29 : decode cX5_takeOut 29 = .ok (.istore 5, 2) := by decide +kernel
theorem dX5_takeOut_31 : decode cX5_takeOut 31 = .ok (.aload_n 0, 1) := by decide +kernel
theorem dX5_takeOut_32 : decode cX5_takeOut 32 = .ok (.getfield 27, 3) := by decide +kernel
theorem dX5_takeOut_35 : decode cX5_takeOut 35 = .ok (.iload_n 3, 1) := by decide +kernel
theorem dX5_takeOut_36 : decode cX5_takeOut 36 = .ok (.iaload, 1) := by decide +kernel
theorem dX5_takeOut_37 : decode cX5_takeOut 37 = .ok (.istore 6, 2) := by decide +kernel
theorem dX5_takeOut_39 : decode cX5_takeOut 39 = .ok (.iload 6, 2) := by decide +kernel
theorem dX5_takeOut_41 : decode cX5_takeOut 41 = .ok (.iload 4, 2) := by decide +kernel
theorem dX5_takeOut_43 : decode cX5_takeOut 43 = .ok (.if_icmp .gt 23, 3) := by decide +kernel
theorem dX5_takeOut_46 : decode cX5_takeOut 46 = .ok (.iinc 5 1, 3) := by decide +kernel
theorem dX5_takeOut_49 : decode cX5_takeOut 49 = .ok (.iload 6, 2) := by decide +kernel
theorem dX5_takeOut_51 : decode cX5_takeOut 51 = .ok (.aload_n 0, 1) := by decide +kernel
theorem dX5_takeOut_52 : decode cX5_takeOut 52 = .ok (.getfield 27, 3) := by decide +kernel
theorem dX5_takeOut_55 : decode cX5_takeOut 55 = .ok (.iload_n 3, 1) := by decide +kernel
theorem dX5_takeOut_56 : decode cX5_takeOut 56 = .ok (.iload 5, 2) := by decide +kernel
theorem dX5_takeOut_58 : decode cX5_takeOut 58 = .ok (.iadd, 1) := by decide +kernel
theorem dX5_takeOut_59 : decode cX5_takeOut 59 = .ok (.iaload, 1) := by decide +kernel
theorem dX5_takeOut_60 : decode cX5_takeOut 60 = .ok (.iadd, 1) := by decide +kernel
theorem dX5_takeOut_61 : decode cX5_takeOut 61 = .ok (.istore 6, 2) := by decide +kernel
theorem dX5_takeOut_63 : decode cX5_takeOut 63 = .ok (.goto (-24), 3) := by decide +kernel
theorem dX5_takeOut_66 : decode cX5_takeOut 66 = .ok (.iload 4, 2) := by decide +kernel
theorem dX5_takeOut_68 : decode cX5_takeOut 68 = .ok (.istore 7, 2) := by decide +kernel
theorem dX5_takeOut_70 : decode cX5_takeOut 70 = .ok (.iload 7, 2) := by decide +kernel
theorem dX5_takeOut_72 : decode cX5_takeOut 72 = .ok (.iconst 1, 1) := by decide +kernel
theorem dX5_takeOut_73 : decode cX5_takeOut 73 = .ok (.iadd, 1) := by decide +kernel
theorem dX5_takeOut_74 : decode cX5_takeOut 74 = .ok (.aload_n 0, 1) := by decide +kernel
theorem dX5_takeOut_75 : decode cX5_takeOut 75 = .ok (.getfield 74, 3) := by decide +kernel
theorem dX5_takeOut_78 : decode cX5_takeOut 78 = .ok (.if_icmp .ge 29, 3) := by decide +kernel
theorem dX5_takeOut_81 : decode cX5_takeOut 81 = .ok (.aload_n 0, 1) := by decide +kernel
theorem dX5_takeOut_82 : decode cX5_takeOut 82 = .ok (.getfield 24, 3) := by decide +kernel
theorem dX5_takeOut_85 : decode cX5_takeOut 85 = .ok (.iload_n 3, 1) := by decide +kernel
theorem dX5_takeOut_86 : decode cX5_takeOut 86 = .ok (.iload 7, 2) := by decide +kernel
theorem dX5_takeOut_88 : decode cX5_takeOut 88 = .ok (.iadd, 1) := by decide +kernel
theorem dX5_takeOut_89 : decode cX5_takeOut 89 = .ok (.aload_n 0, 1) := by decide +kernel
theorem dX5_takeOut_90 : decode cX5_takeOut 90 = .ok (.getfield 24, 3) := by decide +kernel
theorem dX5_takeOut_93 : decode cX5_takeOut 93 = .ok (.iload_n 3, 1) := by decide +kernel
theorem dX5_takeOut_94 : decode cX5_takeOut 94 = .ok (.iload 7, 2) := by decide +kernel
theorem dX5_takeOut_96 : decode cX5_takeOut 96 = .ok (.iadd, 1) := by decide +kernel
theorem dX5_takeOut_97 : decode cX5_takeOut 97 = .ok (.iconst 1, 1) := by decide +kernel
theorem dX5_takeOut_98 : decode cX5_takeOut 98 = .ok (.iadd, 1) := by decide +kernel
theorem dX5_takeOut_99 : decode cX5_takeOut 99 = .ok (.iaload, 1) := by decide +kernel
theorem dX5_takeOut_100 : decode cX5_takeOut 100 = .ok (.iastore, 1) := by decide +kernel
theorem dX5_takeOut_101 : decode cX5_takeOut 101 = .ok (.iinc 7 1, 3) := by decide +kernel
theorem dX5_takeOut_104 : decode cX5_takeOut 104 = .ok (.goto (-34), 3) := by decide +kernel
theorem dX5_takeOut_107 : decode cX5_takeOut 107 = .ok (.aload_n 0, 1) := by decide +kernel
theorem dX5_takeOut_108 : decode cX5_takeOut 108 = .ok (.getfield 27, 3) := by decide +kernel
theorem dX5_takeOut_111 : decode cX5_takeOut 111 = .ok (.iload_n 3, 1) := by decide +kernel
theorem dX5_takeOut_112 : decode cX5_takeOut 112 = .ok (.iload 5, 2) := by decide +kernel
theorem dX5_takeOut_114 : decode cX5_takeOut 114 = .ok (.iadd, 1) := by decide +kernel
theorem dX5_takeOut_115 : decode cX5_takeOut 115 = .ok (.dup2, 1) := by decide +kernel
theorem dX5_takeOut_116 : decode cX5_takeOut 116 = .ok (.iaload, 1) := by decide +kernel
theorem dX5_takeOut_117 : decode cX5_takeOut 117 = .ok (.iconst 1, 1) := by decide +kernel
theorem dX5_takeOut_118 : decode cX5_takeOut 118 = .ok (.isub, 1) := by decide +kernel
theorem dX5_takeOut_119 : decode cX5_takeOut 119 = .ok (.iastore, 1) := by decide +kernel
theorem dX5_takeOut_120 : decode cX5_takeOut 120 = .ok (.aload_n 0, 1) := by decide +kernel
theorem dX5_takeOut_121 : decode cX5_takeOut 121 = .ok (.getfield 27, 3) := by decide +kernel
theorem dX5_takeOut_124 : decode cX5_takeOut 124 = .ok (.iload_n 3, 1) := by decide +kernel
theorem dX5_takeOut_125 : decode cX5_takeOut 125 = .ok (.iload 5, 2) := by decide +kernel
theorem dX5_takeOut_127 : decode cX5_takeOut 127 = .ok (.iadd, 1) := by decide +kernel
theorem dX5_takeOut_128 : decode cX5_takeOut 128 = .ok (.iaload, 1) := by decide +kernel
theorem dX5_takeOut_129 : decode cX5_takeOut 129 = .ok (.istore 7, 2) := by decide +kernel
theorem dX5_takeOut_131 : decode cX5_takeOut 131 = .ok (.iload 7, 2) := by decide +kernel
theorem dX5_takeOut_133 : decode cX5_takeOut 133 = .ok (.ifCond .ne 13, 3) := by decide +kernel
theorem dX5_takeOut_136 : decode cX5_takeOut 136 = .ok (.aload_n 0, 1) := by decide +kernel
theorem dX5_takeOut_137 : decode cX5_takeOut 137 = .ok (.iload_n 1, 1) := by decide +kernel
theorem dX5_takeOut_138 : decode cX5_takeOut 138 = .ok (.iload 5, 2) := by decide +kernel
theorem dX5_takeOut_140 : decode cX5_takeOut 140 = .ok (.invokevirtual 77, 3) := by decide +kernel
theorem dX5_takeOut_143 : decode cX5_takeOut 143 = .ok (.goto 108, 3) := by decide +kernel
theorem dX5_takeOut_146 : decode cX5_takeOut 146 = .ok (.iload 5, 2) := by decide +kernel
theorem dX5_takeOut_148 : decode cX5_takeOut 148 = .ok (.iconst 1, 1) := by decide +kernel
theorem dX5_takeOut_149 : decode cX5_takeOut 149 = .ok (.iadd, 1) := by decide +kernel
theorem dX5_takeOut_150 : decode cX5_takeOut 150 = .ok (.aload_n 0, 1) := by decide +kernel
theorem dX5_takeOut_151 : decode cX5_takeOut 151 = .ok (.getfield 30, 3) := by decide +kernel
theorem dX5_takeOut_154 : decode cX5_takeOut 154 = .ok (.iload_n 1, 1) := by decide +kernel
theorem dX5_takeOut_155 : decode cX5_takeOut 155 = .ok (.iaload, 1) := by decide +kernel
theorem dX5_takeOut_156 : decode cX5_takeOut 156 = .ok (.if_icmp .ge 48, 3) := by decide +kernel
theorem dX5_takeOut_159 : decode cX5_takeOut 159 = .ok (.iload 7, 2) := by decide +kernel
theorem dX5_takeOut_161 : decode cX5_takeOut 161 = .ok (.aload_n 0, 1) := by decide +kernel
theorem dX5_takeOut_162 : decode cX5_takeOut 162 = .ok (.getfield 27, 3) := by decide +kernel
theorem dX5_takeOut_165 : decode cX5_takeOut 165 = .ok (.iload_n 3, 1) := by decide +kernel
theorem dX5_takeOut_166 : decode cX5_takeOut 166 = .ok (.iload 5, 2) := by decide +kernel
theorem dX5_takeOut_168 : decode cX5_takeOut 168 = .ok (.iadd, 1) := by decide +kernel
theorem dX5_takeOut_169 : decode cX5_takeOut 169 = .ok (.iconst 1, 1) := by decide +kernel
theorem dX5_takeOut_170 : decode cX5_takeOut 170 = .ok (.iadd, 1) := by decide +kernel
theorem dX5_takeOut_171 : decode cX5_takeOut 171 = .ok (.iaload, 1) := by decide +kernel
theorem dX5_takeOut_172 : decode cX5_takeOut 172 = .ok (.iadd, 1) := by decide +kernel
theorem dX5_takeOut_173 : decode cX5_takeOut 173 = .ok (.bipush 10, 2) := by decide +kernel
theorem dX5_takeOut_175 : decode cX5_takeOut 175 = .ok (.if_icmp .gt 29, 3) := by decide +kernel
theorem dX5_takeOut_178 : decode cX5_takeOut 178 = .ok (.aload_n 0, 1) := by decide +kernel
theorem dX5_takeOut_179 : decode cX5_takeOut 179 = .ok (.getfield 27, 3) := by decide +kernel
theorem dX5_takeOut_182 : decode cX5_takeOut 182 = .ok (.iload_n 3, 1) := by decide +kernel
theorem dX5_takeOut_183 : decode cX5_takeOut 183 = .ok (.iload 5, 2) := by decide +kernel
theorem dX5_takeOut_185 : decode cX5_takeOut 185 = .ok (.iadd, 1) := by decide +kernel
theorem dX5_takeOut_186 : decode cX5_takeOut 186 = .ok (.iconst 1, 1) := by decide +kernel
theorem dX5_takeOut_187 : decode cX5_takeOut 187 = .ok (.iadd, 1) := by decide +kernel
theorem dX5_takeOut_188 : decode cX5_takeOut 188 = .ok (.dup2, 1) := by decide +kernel
theorem dX5_takeOut_189 : decode cX5_takeOut 189 = .ok (.iaload, 1) := by decide +kernel
theorem dX5_takeOut_190 : decode cX5_takeOut 190 = .ok (.iload 7, 2) := by decide +kernel
theorem dX5_takeOut_192 : decode cX5_takeOut 192 = .ok (.iadd, 1) := by decide +kernel
theorem dX5_takeOut_193 : decode cX5_takeOut 193 = .ok (.iastore, 1) := by decide +kernel
theorem dX5_takeOut_194 : decode cX5_takeOut 194 = .ok (.aload_n 0, 1) := by decide +kernel
theorem dX5_takeOut_195 : decode cX5_takeOut 195 = .ok (.iload_n 1, 1) := by decide +kernel
theorem dX5_takeOut_196 : decode cX5_takeOut 196 = .ok (.iload 5, 2) := by decide +kernel
theorem dX5_takeOut_198 : decode cX5_takeOut 198 = .ok (.invokevirtual 77, 3) := by decide +kernel
theorem dX5_takeOut_201 : decode cX5_takeOut 201 = .ok (.goto 50, 3) := by decide +kernel
theorem dX5_takeOut_204 : decode cX5_takeOut 204 = .ok (.iload 5, 2) := by decide +kernel
theorem dX5_takeOut_206 : decode cX5_takeOut 206 = .ok (.ifCond .le 45, 3) := by decide +kernel
theorem dX5_takeOut_209 : decode cX5_takeOut 209 = .ok (.aload_n 0, 1) := by decide +kernel
theorem dX5_takeOut_210 : decode cX5_takeOut 210 = .ok (.getfield 27, 3) := by decide +kernel
theorem dX5_takeOut_213 : decode cX5_takeOut 213 = .ok (.iload_n 3, 1) := by decide +kernel
theorem dX5_takeOut_214 : decode cX5_takeOut 214 = .ok (.iload 5, 2) := by decide +kernel
theorem dX5_takeOut_216 : decode cX5_takeOut 216 = .ok (.iadd, 1) := by decide +kernel
theorem dX5_takeOut_217 : decode cX5_takeOut 217 = .ok (.iconst 1, 1) := by decide +kernel
theorem dX5_takeOut_218 : decode cX5_takeOut 218 = .ok (.isub, 1) := by decide +kernel
theorem dX5_takeOut_219 : decode cX5_takeOut 219 = .ok (.iaload, 1) := by decide +kernel
theorem dX5_takeOut_220 : decode cX5_takeOut 220 = .ok (.iload 7, 2) := by decide +kernel
theorem dX5_takeOut_222 : decode cX5_takeOut 222 = .ok (.iadd, 1) := by decide +kernel
theorem dX5_takeOut_223 : decode cX5_takeOut 223 = .ok (.bipush 10, 2) := by decide +kernel
theorem dX5_takeOut_225 : decode cX5_takeOut 225 = .ok (.if_icmp .gt 26, 3) := by decide +kernel
theorem dX5_takeOut_228 : decode cX5_takeOut 228 = .ok (.aload_n 0, 1) := by decide +kernel
theorem dX5_takeOut_229 : decode cX5_takeOut 229 = .ok (.getfield 27, 3) := by decide +kernel
theorem dX5_takeOut_232 : decode cX5_takeOut 232 = .ok (.iload_n 3, 1) := by decide +kernel
theorem dX5_takeOut_233 : decode cX5_takeOut 233 = .ok (.iload 5, 2) := by decide +kernel
theorem dX5_takeOut_235 : decode cX5_takeOut 235 = .ok (.iadd, 1) := by decide +kernel
theorem dX5_takeOut_236 : decode cX5_takeOut 236 = .ok (.iconst 1, 1) := by decide +kernel
theorem dX5_takeOut_237 : decode cX5_takeOut 237 = .ok (.isub, 1) := by decide +kernel
theorem dX5_takeOut_238 : decode cX5_takeOut 238 = .ok (.dup2, 1) := by decide +kernel
theorem dX5_takeOut_239 : decode cX5_takeOut 239 = .ok (.iaload, 1) := by decide +kernel
theorem dX5_takeOut_240 : decode cX5_takeOut 240 = .ok (.iload 7, 2) := by decide +kernel
theorem dX5_takeOut_242 : decode cX5_takeOut 242 = .ok (.iadd, 1) := by decide +kernel
theorem dX5_takeOut_243 : decode cX5_takeOut 243 = .ok (.iastore, 1) := by decide +kernel
theorem dX5_takeOut_244 : decode cX5_takeOut 244 = .ok (.aload_n 0, 1) := by decide +kernel
theorem dX5_takeOut_245 : decode cX5_takeOut 245 = .ok (.iload_n 1, 1) := by decide +kernel
theorem dX5_takeOut_246 : decode cX5_takeOut 246 = .ok (.iload 5, 2) := by decide +kernel
theorem dX5_takeOut_248 : decode cX5_takeOut 248 = .ok (.invokevirtual 77, 3) := by decide +kernel
theorem dX5_takeOut_251 : decode cX5_takeOut 251 = .ok (.return_, 1) := by decide +kernel
theorem dX5_event_0 : decode cX5_event 0 = .ok (.aload_n 0, 1) := by decide +kernel
theorem dX5_event_1 : decode cX5_event 1 = .ok (.iconst 0, 1) := by decide +kernel
theorem dX5_event_2 : decode cX5_event 2 = .ok (.putfield 60, 3) := by decide +kernel
theorem dX5_event_5 : decode cX5_event 5 = .ok (.iload_n 1, 1) := by decide +kernel
theorem dX5_event_6 : decode cX5_event 6 = .ok (.invokestatic 81, 3) := by decide +kernel
theorem dX5_event_9 : decode cX5_event 9 = .ok (.ifCond .eq 25, 3) := by decide +kernel
theorem dX5_event_12 : decode cX5_event 12 = .ok (.iload_n 2, 1) := by decide +kernel
theorem dX5_event_13 : decode cX5_event 13 = .ok (.invokestatic 81, 3) := by decide +kernel
theorem dX5_event_16 : decode cX5_event 16 = .ok (.ifCond .eq 18, 3) := by decide +kernel
theorem dX5_event_19 : decode cX5_event 19 = .ok (.iload_n 3, 1) := by decide +kernel
theorem dX5_event_20 : decode cX5_event 20 = .ok (.invokestatic 81, 3) := by decide +kernel
theorem dX5_event_23 : decode cX5_event 23 = .ok (.ifCond .eq 11, 3) := by decide +kernel
theorem dX5_event_26 : decode cX5_event 26 = .ok (.iload 4, 2) := by decide +kernel
theorem dX5_event_28 : decode cX5_event 28 = .ok (.invokestatic 85, 3) := by decide +kernel
theorem dX5_event_31 : decode cX5_event 31 = .ok (.ifCond .ne 6, 3) := by decide +kernel
theorem dX5_event_34 : decode cX5_event 34 = .ok (.bipush (-2), 2) := by decide +kernel
theorem dX5_event_36 : decode cX5_event 36 = .ok (.ireturn, 1) := by decide +kernel
theorem dX5_event_37 : decode cX5_event 37 = .ok (.iload 4, 2) := by decide +kernel
theorem dX5_event_39 : decode cX5_event 39 = .ok (.aload_n 0, 1) := by decide +kernel
theorem dX5_event_40 : decode cX5_event 40 = .ok (.invokevirtual 88, 3) := by decide +kernel
theorem dX5_event_43 : decode cX5_event 43 = .ok (.if_icmp .ge 6, 3) := by decide +kernel
theorem dX5_event_46 : decode cX5_event 46 = .ok (.bipush (-3), 2) := by decide +kernel
theorem dX5_event_48 : decode cX5_event 48 = .ok (.ireturn, 1) := by decide +kernel
theorem dX5_event_49 : decode cX5_event 49 = .ok (.iload_n 1, 1) := by decide +kernel
theorem dX5_event_50 : decode cX5_event 50 = .ok (.ldc 63, 2) := by decide +kernel
theorem dX5_event_52 : decode cX5_event 52 = .ok (.imul, 1) := by decide +kernel
theorem dX5_event_53 : decode cX5_event 53 = .ok (.iload_n 2, 1) := by decide +kernel
theorem dX5_event_54 : decode cX5_event 54 = .ok (.sipush 1000, 3) := by decide +kernel
theorem dX5_event_57 : decode cX5_event 57 = .ok (.imul, 1) := by decide +kernel
theorem dX5_event_58 : decode cX5_event 58 = .ok (.iadd, 1) := by decide +kernel
theorem dX5_event_59 : decode cX5_event 59 = .ok (.iload_n 3, 1) := by decide +kernel
theorem dX5_event_60 : decode cX5_event 60 = .ok (.iadd, 1) := by decide +kernel
theorem dX5_event_61 : decode cX5_event 61 = .ok (.istore 6, 2) := by decide +kernel
theorem dX5_event_63 : decode cX5_event 63 = .ok (.aload_n 0, 1) := by decide +kernel
theorem dX5_event_64 : decode cX5_event 64 = .ok (.iload 6, 2) := by decide +kernel
theorem dX5_event_66 : decode cX5_event 66 = .ok (.invokevirtual 92, 3) := by decide +kernel
theorem dX5_event_69 : decode cX5_event 69 = .ok (.iload 5, 2) := by decide +kernel
theorem dX5_event_71 : decode cX5_event 71 = .ok (.if_icmp .ne 5, 3) := by decide +kernel
theorem dX5_event_74 : decode cX5_event 74 = .ok (.iconst 0, 1) := by decide +kernel
theorem dX5_event_75 : decode cX5_event 75 = .ok (.ireturn, 1) := by decide +kernel
theorem dX5_event_76 : decode cX5_event 76 = .ok (.aload_n 0, 1) := by decide +kernel
theorem dX5_event_77 : decode cX5_event 77 = .ok (.getfield 71, 3) := by decide +kernel
theorem dX5_event_80 : decode cX5_event 80 = .ok (.aload_n 0, 1) := by decide +kernel
theorem dX5_event_81 : decode cX5_event 81 = .ok (.getfield 57, 3) := by decide +kernel
theorem dX5_event_84 : decode cX5_event 84 = .ok (.if_icmp .ne 6, 3) := by decide +kernel
theorem dX5_event_87 : decode cX5_event 87 = .ok (.bipush (-4), 2) := by decide +kernel
theorem dX5_event_89 : decode cX5_event 89 = .ok (.ireturn, 1) := by decide +kernel
theorem dX5_event_90 : decode cX5_event 90 = .ok (.aload_n 0, 1) := by decide +kernel
theorem dX5_event_91 : decode cX5_event 91 = .ok (.getfield 7, 3) := by decide +kernel
theorem dX5_event_94 : decode cX5_event 94 = .ok (.aload_n 0, 1) := by decide +kernel
theorem dX5_event_95 : decode cX5_event 95 = .ok (.getfield 71, 3) := by decide +kernel
theorem dX5_event_98 : decode cX5_event 98 = .ok (.iload 6, 2) := by decide +kernel
theorem dX5_event_100 : decode cX5_event 100 = .ok (.iastore, 1) := by decide +kernel
theorem dX5_event_101 : decode cX5_event 101 = .ok (.aload_n 0, 1) := by decide +kernel
theorem dX5_event_102 : decode cX5_event 102 = .ok (.getfield 13, 3) := by decide +kernel
theorem dX5_event_105 : decode cX5_event 105 = .ok (.aload_n 0, 1) := by decide +kernel
theorem dX5_event_106 : decode cX5_event 106 = .ok (.getfield 71, 3) := by decide +kernel
theorem dX5_event_109 : decode cX5_event 109 = .ok (.iload 4, 2) := by decide +kernel
theorem dX5_event_111 : decode cX5_event 111 = .ok (.iastore, 1) := by decide +kernel
theorem dX5_event_112 : decode cX5_event 112 = .ok (.aload_n 0, 1) := by decide +kernel
theorem dX5_event_113 : decode cX5_event 113 = .ok (.getfield 16, 3) := by decide +kernel
theorem dX5_event_116 : decode cX5_event 116 = .ok (.aload_n 0, 1) := by decide +kernel
theorem dX5_event_117 : decode cX5_event 117 = .ok (.getfield 71, 3) := by decide +kernel
theorem dX5_event_120 : decode cX5_event 120 = .ok (.iload 5, 2) := by decide +kernel
theorem dX5_event_122 : decode cX5_event 122 = .ok (.bastore, 1) := by decide +kernel
theorem dX5_event_123 : decode cX5_event 123 = .ok (.aload_n 0, 1) := by decide +kernel
theorem dX5_event_124 : decode cX5_event 124 = .ok (.dup, 1) := by decide +kernel
theorem dX5_event_125 : decode cX5_event 125 = .ok (.getfield 71, 3) := by decide +kernel
theorem dX5_event_128 : decode cX5_event 128 = .ok (.iconst 1, 1) := by decide +kernel
theorem dX5_event_129 : decode cX5_event 129 = .ok (.iadd, 1) := by decide +kernel
theorem dX5_event_130 : decode cX5_event 130 = .ok (.putfield 71, 3) := by decide +kernel
theorem dX5_event_133 : decode cX5_event 133 = .ok (.iconst 0, 1) := by decide +kernel
theorem dX5_event_134 : decode cX5_event 134 = .ok (.istore 7, 2) := by decide +kernel
theorem dX5_event_136 : decode cX5_event 136 = .ok (.iload 7, 2) := by decide +kernel
theorem dX5_event_138 : decode cX5_event 138 = .ok (.bipush 6, 2) := by decide +kernel
theorem dX5_event_140 : decode cX5_event 140 = .ok (.if_icmp .ge 43, 3) := by decide +kernel
theorem dX5_event_143 : decode cX5_event 143 = .ok (.iload 5, 2) := by decide +kernel
theorem dX5_event_145 : decode cX5_event 145 = .ok (.ifCond .eq 19, 3) := by decide +kernel
theorem dX5_event_148 : decode cX5_event 148 = .ok (.aload_n 0, 1) := by decide +kernel
theorem dX5_event_149 : decode cX5_event 149 = .ok (.iload 7, 2) := by decide +kernel
theorem dX5_event_151 : decode cX5_event 151 = .ok (.iload 7, 2) := by decide +kernel
theorem dX5_event_153 : decode cX5_event 153 = .ok (.iload 6, 2) := by decide +kernel
theorem dX5_event_155 : decode cX5_event 155 = .ok (.invokestatic 95, 3) := by decide +kernel
theorem dX5_event_158 : decode cX5_event 158 = .ok (.invokevirtual 98, 3) := by decide +kernel
theorem dX5_event_161 : decode cX5_event 161 = .ok (.goto 16, 3) := by decide +kernel
theorem dX5_event_164 : decode cX5_event 164 = .ok (.aload_n 0, 1) := by decide +kernel
theorem dX5_event_165 : decode cX5_event 165 = .ok (.iload 7, 2) := by decide +kernel
theorem dX5_event_167 : decode cX5_event 167 = .ok (.iload 7, 2) := by decide +kernel
theorem dX5_event_169 : decode cX5_event 169 = .ok (.iload 6, 2) := by decide +kernel
theorem dX5_event_171 : decode cX5_event 171 = .ok (.invokestatic 95, 3) := by decide +kernel
theorem dX5_event_174 : decode cX5_event 174 = .ok (.invokevirtual 101, 3) := by decide +kernel
theorem dX5_event_177 : decode cX5_event 177 = .ok (.iinc 7 1, 3) := by decide +kernel
theorem dX5_event_180 : decode cX5_event 180 = .ok (.goto (-44), 3) := by decide +kernel
theorem dX5_event_183 : decode cX5_event 183 = .ok (.aload_n 0, 1) := by decide +kernel
theorem dX5_event_184 : decode cX5_event 184 = .ok (.dup, 1) := by decide +kernel
theorem dX5_event_185 : decode cX5_event 185 = .ok (.getfield 74, 3) := by decide +kernel
theorem dX5_event_188 : decode cX5_event 188 = .ok (.iload 5, 2) := by decide +kernel
theorem dX5_event_190 : decode cX5_event 190 = .ok (.ifCond .eq 7, 3) := by decide +kernel
theorem dX5_event_193 : decode cX5_event 193 = .ok (.iconst 1, 1) := by decide +kernel
theorem dX5_event_194 : decode cX5_event 194 = .ok (.goto 4, 3) := by decide +kernel
theorem dX5_event_197 : decode cX5_event 197 = .ok (.iconst (-1), 1) := by decide +kernel
theorem dX5_event_198 : decode cX5_event 198 = .ok (.iadd, 1) := by decide +kernel
theorem dX5_event_199 : decode cX5_event 199 = .ok (.putfield 74, 3) := by decide +kernel
theorem dX5_event_202 : decode cX5_event 202 = .ok (.iconst 1, 1) := by decide +kernel
theorem dX5_event_203 : decode cX5_event 203 = .ok (.ireturn, 1) := by decide +kernel
theorem dX5_add_0 : decode cX5_add 0 = .ok (.aload_n 0, 1) := by decide +kernel
theorem dX5_add_1 : decode cX5_add 1 = .ok (.iload_n 1, 1) := by decide +kernel
theorem dX5_add_2 : decode cX5_add 2 = .ok (.iload_n 2, 1) := by decide +kernel
theorem dX5_add_3 : decode cX5_add 3 = .ok (.iload_n 3, 1) := by decide +kernel
theorem dX5_add_4 : decode cX5_add 4 = .ok (.iload 4, 2) := by decide +kernel
theorem dX5_add_6 : decode cX5_add 6 = .ok (.iconst 1, 1) := by decide +kernel
theorem dX5_add_7 : decode cX5_add 7 = .ok (.invokevirtual 104, 3) := by decide +kernel
theorem dX5_add_10 : decode cX5_add 10 = .ok (.ireturn, 1) := by decide +kernel
theorem dX5_remove_0 : decode cX5_remove 0 = .ok (.aload_n 0, 1) := by decide +kernel
theorem dX5_remove_1 : decode cX5_remove 1 = .ok (.iload_n 1, 1) := by decide +kernel
theorem dX5_remove_2 : decode cX5_remove 2 = .ok (.iload_n 2, 1) := by decide +kernel
theorem dX5_remove_3 : decode cX5_remove 3 = .ok (.iload_n 3, 1) := by decide +kernel
theorem dX5_remove_4 : decode cX5_remove 4 = .ok (.iload 4, 2) := by decide +kernel
theorem dX5_remove_6 : decode cX5_remove 6 = .ok (.iconst 0, 1) := by decide +kernel
theorem dX5_remove_7 : decode cX5_remove 7 = .ok (.invokevirtual 104, 3) := by decide +kernel
theorem dX5_remove_10 : decode cX5_remove 10 = .ok (.ireturn, 1) := by decide +kernel
theorem dX5_cut_0 : decode cX5_cut 0 = .ok (.aload_n 0, 1) := by decide +kernel
theorem dX5_cut_1 : decode cX5_cut 1 = .ok (.iconst 0, 1) := by decide +kernel
theorem dX5_cut_2 : decode cX5_cut 2 = .ok (.putfield 60, 3) := by decide +kernel
theorem dX5_cut_5 : decode cX5_cut 5 = .ok (.iload_n 1, 1) := by decide +kernel
theorem dX5_cut_6 : decode cX5_cut 6 = .ok (.invokestatic 85, 3) := by decide +kernel
theorem dX5_cut_9 : decode cX5_cut 9 = .ok (.ifCond .ne 6, 3) := by decide +kernel
theorem dX5_cut_12 : decode cX5_cut 12 = .ok (.bipush (-2), 2) := by decide +kernel
theorem dX5_cut_14 : decode cX5_cut 14 = .ok (.ireturn, 1) := by decide +kernel
theorem dX5_cut_15 : decode cX5_cut 15 = .ok (.iload_n 1, 1) := by decide +kernel
theorem dX5_cut_16 : decode cX5_cut 16 = .ok (.aload_n 0, 1) := by decide +kernel
theorem dX5_cut_17 : decode cX5_cut 17 = .ok (.getfield 20, 3) := by decide +kernel
theorem dX5_cut_20 : decode cX5_cut 20 = .ok (.if_icmp .ge 6, 3) := by decide +kernel
theorem dX5_cut_23 : decode cX5_cut 23 = .ok (.bipush (-3), 2) := by decide +kernel
theorem dX5_cut_25 : decode cX5_cut 25 = .ok (.ireturn, 1) := by decide +kernel
theorem dX5_cut_26 : decode cX5_cut 26 = .ok (.iconst 0, 1) := by decide +kernel
theorem dX5_cut_27 : decode cX5_cut 27 = .ok (.istore_n 2, 1) := by decide +kernel
theorem dX5_cut_28 : decode cX5_cut 28 = .ok (.aload_n 0, 1) := by decide +kernel
theorem dX5_cut_29 : decode cX5_cut 29 = .ok (.getfield 71, 3) := by decide +kernel
theorem dX5_cut_32 : decode cX5_cut 32 = .ok (.istore_n 3, 1) := by decide +kernel
theorem dX5_cut_33 : decode cX5_cut 33 = .ok (.iconst 0, 1) := by decide +kernel
theorem dX5_cut_34 : decode cX5_cut 34 = .ok (.istore 4, 2) := by decide +kernel
theorem dX5_cut_36 : decode cX5_cut 36 = .ok (.iload 4, 2) := by decide +kernel
theorem dX5_cut_38 : decode cX5_cut 38 = .ok (.iload_n 3, 1) := by decide +kernel
theorem dX5_cut_39 : decode cX5_cut 39 = .ok (.if_icmp .ge 52, 3) := by decide +kernel
theorem dX5_cut_42 : decode cX5_cut 42 = .ok (.aload_n 0, 1) := by decide +kernel
theorem dX5_cut_43 : decode cX5_cut 43 = .ok (.getfield 48, 3) := by decide +kernel
theorem dX5_cut_46 : decode cX5_cut 46 = .ok (.iload 4, 2) := by decide +kernel
theorem dX5_cut_48 : decode cX5_cut 48 = .ok (.aload_n 0, 1) := by decide +kernel
theorem dX5_cut_49 : decode cX5_cut 49 = .ok (.getfield 13, 3) := by decide +kernel
theorem dX5_cut_52 : decode cX5_cut 52 = .ok (.iload 4, 2) := by decide +kernel
theorem dX5_cut_54 : decode cX5_cut 54 = .ok (.iaload, 1) := by decide +kernel
theorem dX5_cut_55 : decode cX5_cut 55 = .ok (.iload_n 1, 1) := by decide +kernel
theorem dX5_cut_56 : decode cX5_cut 56 = .ok (.if_icmp .gt 23, 3) := by decide +kernel
theorem dX5_cut_59 : decode cX5_cut 59 = .ok (.aload_n 0, 1) := by decide +kernel
theorem dX5_cut_60 : decode cX5_cut 60 = .ok (.getfield 16, 3) := by decide +kernel
theorem dX5_cut_63 : decode cX5_cut 63 = .ok (.iload 4, 2) := by decide +kernel
theorem dX5_cut_65 : decode cX5_cut 65 = .ok (.baload, 1) := by decide +kernel
theorem dX5_cut_66 : decode cX5_cut 66 = .ok (.ifCond .eq 17, 3) := by decide +kernel
theorem dX5_cut_69 : decode cX5_cut 69 = .ok (.aload_n 0, 1) := by decide +kernel
theorem dX5_cut_70 : decode cX5_cut 70 = .ok (.iload 4, 2) := by decide +kernel
theorem dX5_cut_72 : decode cX5_cut 72 = .ok (.iload_n 1, 1) := by decide +kernel
theorem dX5_cut_73 : decode cX5_cut 73 = .ok (.invokevirtual 108, 3) := by decide +kernel
theorem dX5_cut_76 : decode cX5_cut 76 = .ok (.ifCond .eq 7, 3) := by decide +kernel
theorem dX5_cut_79 : decode cX5_cut 79 = .ok (.iconst 1, 1) := by decide +kernel
theorem dX5_cut_80 : decode cX5_cut 80 = .ok (.goto 4, 3) := by decide +kernel
theorem dX5_cut_83 : decode cX5_cut 83 = .ok (.iconst 0, 1) := by decide +kernel
theorem dX5_cut_84 : decode cX5_cut 84 = .ok (.bastore, 1) := by decide +kernel
theorem dX5_cut_85 : decode cX5_cut 85 = .ok (.iinc 4 1, 3) := by decide +kernel
theorem dX5_cut_88 : decode cX5_cut 88 = .ok (.goto (-52), 3) := by decide +kernel
theorem dX5_cut_91 : decode cX5_cut 91 = .ok (.iconst 0, 1) := by decide +kernel
theorem dX5_cut_92 : decode cX5_cut 92 = .ok (.istore 4, 2) := by decide +kernel
theorem dX5_cut_94 : decode cX5_cut 94 = .ok (.iload 4, 2) := by decide +kernel
theorem dX5_cut_96 : decode cX5_cut 96 = .ok (.iload_n 3, 1) := by decide +kernel
theorem dX5_cut_97 : decode cX5_cut 97 = .ok (.if_icmp .ge 61, 3) := by decide +kernel
theorem dX5_cut_100 : decode cX5_cut 100 = .ok (.aload_n 0, 1) := by decide +kernel
theorem dX5_cut_101 : decode cX5_cut 101 = .ok (.getfield 48, 3) := by decide +kernel
theorem dX5_cut_104 : decode cX5_cut 104 = .ok (.iload 4, 2) := by decide +kernel
theorem dX5_cut_106 : decode cX5_cut 106 = .ok (.baload, 1) := by decide +kernel
theorem dX5_cut_107 : decode cX5_cut 107 = .ok (.ifCond .eq 45, 3) := by decide +kernel
theorem dX5_cut_110 : decode cX5_cut 110 = .ok (.aload_n 0, 1) := by decide +kernel
theorem dX5_cut_111 : decode cX5_cut 111 = .ok (.getfield 7, 3) := by decide +kernel
theorem dX5_cut_114 : decode cX5_cut 114 = .ok (.iload_n 2, 1) := by decide +kernel
theorem dX5_cut_115 : decode cX5_cut 115 = .ok (.aload_n 0, 1) := by decide +kernel
theorem dX5_cut_116 : decode cX5_cut 116 = .ok (.getfield 7, 3) := by decide +kernel
theorem dX5_cut_119 : decode cX5_cut 119 = .ok (.iload 4, 2) := by decide +kernel
theorem dX5_cut_121 : decode cX5_cut 121 = .ok (.iaload, 1) := by decide +kernel
theorem dX5_cut_122 : decode cX5_cut 122 = .ok (.iastore, 1) := by decide +kernel
theorem dX5_cut_123 : decode cX5_cut 123 = .ok (.aload_n 0, 1) := by decide +kernel
theorem dX5_cut_124 : decode cX5_cut 124 = .ok (.getfield 13, 3) := by decide +kernel
theorem dX5_cut_127 : decode cX5_cut 127 = .ok (.iload_n 2, 1) := by decide +kernel
theorem dX5_cut_128 : decode cX5_cut 128 = .ok (.aload_n 0, 1) := by decide +kernel
theorem dX5_cut_129 : decode cX5_cut 129 = .ok (.getfield 13, 3) := by decide +kernel
theorem dX5_cut_132 : decode cX5_cut 132 = .ok (.iload 4, 2) := by decide +kernel
theorem dX5_cut_134 : decode cX5_cut 134 = .ok (.iaload, 1) := by decide +kernel
theorem dX5_cut_135 : decode cX5_cut 135 = .ok (.iastore, 1) := by decide +kernel
theorem dX5_cut_136 : decode cX5_cut 136 = .ok (.aload_n 0, 1) := by decide +kernel
theorem dX5_cut_137 : decode cX5_cut 137 = .ok (.getfield 16, 3) := by decide +kernel
theorem dX5_cut_140 : decode cX5_cut 140 = .ok (.iload_n 2, 1) := by decide +kernel
theorem dX5_cut_141 : decode cX5_cut 141 = .ok (.aload_n 0, 1) := by decide +kernel
theorem dX5_cut_142 : decode cX5_cut 142 = .ok (.getfield 16, 3) := by decide +kernel
theorem dX5_cut_145 : decode cX5_cut 145 = .ok (.iload 4, 2) := by decide +kernel
theorem dX5_cut_147 : decode cX5_cut 147 = .ok (.baload, 1) := by decide +kernel
theorem dX5_cut_148 : decode cX5_cut 148 = .ok (.bastore, 1) := by decide +kernel
theorem dX5_cut_149 : decode cX5_cut 149 = .ok (.iinc 2 1, 3) := by decide +kernel
theorem dX5_cut_152 : decode cX5_cut 152 = .ok (.iinc 4 1, 3) := by decide +kernel
theorem dX5_cut_155 : decode cX5_cut 155 = .ok (.goto (-61), 3) := by decide +kernel
theorem dX5_cut_158 : decode cX5_cut 158 = .ok (.aload_n 0, 1) := by decide +kernel
theorem dX5_cut_159 : decode cX5_cut 159 = .ok (.iload_n 2, 1) := by decide +kernel
theorem dX5_cut_160 : decode cX5_cut 160 = .ok (.putfield 71, 3) := by decide +kernel
theorem dX5_cut_163 : decode cX5_cut 163 = .ok (.aload_n 0, 1) := by decide +kernel
theorem dX5_cut_164 : decode cX5_cut 164 = .ok (.iload_n 1, 1) := by decide +kernel
theorem dX5_cut_165 : decode cX5_cut 165 = .ok (.putfield 20, 3) := by decide +kernel
theorem dX5_cut_168 : decode cX5_cut 168 = .ok (.iload_n 3, 1) := by decide +kernel
theorem dX5_cut_169 : decode cX5_cut 169 = .ok (.iload_n 2, 1) := by decide +kernel
theorem dX5_cut_170 : decode cX5_cut 170 = .ok (.isub, 1) := by decide +kernel
theorem dX5_cut_171 : decode cX5_cut 171 = .ok (.ireturn, 1) := by decide +kernel
theorem dX5_isWithin_0 : decode cX5_isWithin 0 = .ok (.iload_n 1, 1) := by decide +kernel
theorem dX5_isWithin_1 : decode cX5_isWithin 1 = .ok (.iconst (-1), 1) := by decide +kernel
theorem dX5_isWithin_2 : decode cX5_isWithin 2 = .ok (.if_icmp .eq 12, 3) := by decide +kernel
theorem dX5_isWithin_5 : decode cX5_isWithin 5 = .ok (.iload_n 0, 1) := by decide +kernel
theorem dX5_isWithin_6 : decode cX5_isWithin 6 = .ok (.iconst 0, 1) := by decide +kernel
theorem dX5_isWithin_7 : decode cX5_isWithin 7 = .ok (.invokestatic 68, 3) := by decide +kernel
theorem dX5_isWithin_10 : decode cX5_isWithin 10 = .ok (.iload_n 1, 1) := by decide +kernel
theorem dX5_isWithin_11 : decode cX5_isWithin 11 = .ok (.if_icmp .ne 21, 3) := by decide +kernel
theorem dX5_isWithin_14 : decode cX5_isWithin 14 = .ok (.iload_n 2, 1) := by decide +kernel
theorem dX5_isWithin_15 : decode cX5_isWithin 15 = .ok (.iconst (-1), 1) := by decide +kernel
theorem dX5_isWithin_16 : decode cX5_isWithin 16 = .ok (.if_icmp .eq 12, 3) := by decide +kernel
theorem dX5_isWithin_19 : decode cX5_isWithin 19 = .ok (.iload_n 0, 1) := by decide +kernel
theorem dX5_isWithin_20 : decode cX5_isWithin 20 = .ok (.iconst 1, 1) := by decide +kernel
theorem dX5_isWithin_21 : decode cX5_isWithin 21 = .ok (.invokestatic 68, 3) := by decide +kernel
theorem dX5_isWithin_24 : decode cX5_isWithin 24 = .ok (.iload_n 2, 1) := by decide +kernel
theorem dX5_isWithin_25 : decode cX5_isWithin 25 = .ok (.if_icmp .ne 7, 3) := by decide +kernel
theorem dX5_isWithin_28 : decode cX5_isWithin 28 = .ok (.iconst 1, 1) := by decide +kernel
theorem dX5_isWithin_29 : decode cX5_isWithin 29 = .ok (.goto 4, 3) := by decide +kernel
theorem dX5_isWithin_32 : decode cX5_isWithin 32 = .ok (.iconst 0, 1) := by decide +kernel
theorem dX5_isWithin_33 : decode cX5_isWithin 33 = .ok (.ireturn, 1) := by decide +kernel
theorem dX5_free_0 : decode cX5_free 0 = .ok (.iload_n 0, 1) := by decide +kernel
theorem dX5_free_1 : decode cX5_free 1 = .ok (.iconst (-1), 1) := by decide +kernel
theorem dX5_free_2 : decode cX5_free 2 = .ok (.if_icmp .ne 7, 3) := by decide +kernel
theorem dX5_free_5 : decode cX5_free 5 = .ok (.iconst 0, 1) := by decide +kernel
theorem dX5_free_6 : decode cX5_free 6 = .ok (.goto 13, 3) := by decide +kernel
theorem dX5_free_9 : decode cX5_free 9 = .ok (.iload_n 1, 1) := by decide +kernel
theorem dX5_free_10 : decode cX5_free 10 = .ok (.iconst (-1), 1) := by decide +kernel
theorem dX5_free_11 : decode cX5_free 11 = .ok (.if_icmp .ne 7, 3) := by decide +kernel
theorem dX5_free_14 : decode cX5_free 14 = .ok (.iconst 1, 1) := by decide +kernel
theorem dX5_free_15 : decode cX5_free 15 = .ok (.goto 4, 3) := by decide +kernel
theorem dX5_free_18 : decode cX5_free 18 = .ok (.iconst 2, 1) := by decide +kernel
theorem dX5_free_19 : decode cX5_free 19 = .ok (.ireturn, 1) := by decide +kernel
theorem dX5_find_0 : decode cX5_find 0 = .ok (.aload_n 0, 1) := by decide +kernel
theorem dX5_find_1 : decode cX5_find 1 = .ok (.iconst 0, 1) := by decide +kernel
theorem dX5_find_2 : decode cX5_find 2 = .ok (.putfield 112, 3) := by decide +kernel
theorem dX5_find_5 : decode cX5_find 5 = .ok (.iconst 0, 1) := by decide +kernel
theorem dX5_find_6 : decode cX5_find 6 = .ok (.istore 5, 2) := by decide +kernel
theorem dX5_find_8 : decode cX5_find 8 = .ok (.iload 5, 2) := by decide +kernel
theorem dX5_find_10 : decode cX5_find 10 = .ok (.aload_n 0, 1) := by decide +kernel
theorem dX5_find_11 : decode cX5_find 11 = .ok (.getfield 71, 3) := by decide +kernel
theorem dX5_find_14 : decode cX5_find 14 = .ok (.if_icmp .ge 122, 3) := by decide +kernel
theorem dX5_find_17 : decode cX5_find 17 = .ok (.iload_n 1, 1) := by decide +kernel
theorem dX5_find_18 : decode cX5_find 18 = .ok (.aload_n 0, 1) := by decide +kernel
theorem dX5_find_19 : decode cX5_find 19 = .ok (.getfield 7, 3) := by decide +kernel
theorem dX5_find_22 : decode cX5_find 22 = .ok (.iload 5, 2) := by decide +kernel
theorem dX5_find_24 : decode cX5_find 24 = .ok (.iaload, 1) := by decide +kernel
theorem dX5_find_25 : decode cX5_find 25 = .ok (.invokestatic 95, 3) := by decide +kernel
theorem dX5_find_28 : decode cX5_find 28 = .ok (.istore 6, 2) := by decide +kernel
theorem dX5_find_30 : decode cX5_find 30 = .ok (.aload_n 0, 1) := by decide +kernel
theorem dX5_find_31 : decode cX5_find 31 = .ok (.getfield 16, 3) := by decide +kernel
theorem dX5_find_34 : decode cX5_find 34 = .ok (.iload 5, 2) := by decide +kernel
theorem dX5_find_36 : decode cX5_find 36 = .ok (.baload, 1) := by decide +kernel
theorem dX5_find_37 : decode cX5_find 37 = .ok (.ifCond .eq 93, 3) := by decide +kernel
theorem dX5_find_40 : decode cX5_find 40 = .ok (.iload 6, 2) := by decide +kernel
theorem dX5_find_42 : decode cX5_find 42 = .ok (.iload_n 2, 1) := by decide +kernel
theorem dX5_find_43 : decode cX5_find 43 = .ok (.iload_n 3, 1) := by decide +kernel
theorem dX5_find_44 : decode cX5_find 44 = .ok (.invokestatic 115, 3) := by decide +kernel
theorem dX5_find_47 : decode cX5_find 47 = .ok (.ifCond .eq 83, 3) := by decide +kernel
theorem dX5_find_50 : decode cX5_find 50 = .ok (.aload_n 0, 1) := by decide +kernel
theorem dX5_find_51 : decode cX5_find 51 = .ok (.iload 5, 2) := by decide +kernel
theorem dX5_find_53 : decode cX5_find 53 = .ok (.iload 4, 2) := by decide +kernel
theorem dX5_find_55 : decode cX5_find 55 = .ok (.invokevirtual 108, 3) := by decide +kernel
theorem dX5_find_58 : decode cX5_find 58 = .ok (.ifCond .ne 6, 3) := by decide +kernel
theorem dX5_find_61 : decode cX5_find 61 = .ok (.goto 69, 3) := by decide +kernel
theorem dX5_find_64 : decode cX5_find 64 = .ok (.aload_n 0, 1) := by decide +kernel
theorem dX5_find_65 : decode cX5_find 65 = .ok (.getfield 112, 3) := by decide +kernel
theorem dX5_find_68 : decode cX5_find 68 = .ok (.istore 7, 2) := by decide +kernel
theorem dX5_find_70 : decode cX5_find 70 = .ok (.iload 7, 2) := by decide +kernel
theorem dX5_find_72 : decode cX5_find 72 = .ok (.ifCond .le 39, 3) := by decide +kernel
theorem dX5_find_75 : decode cX5_find 75 = .ok (.aload_n 0, 1) := by decide +kernel
theorem dX5_find_76 : decode cX5_find 76 = .ok (.getfield 51, 3) := by decide +kernel
theorem dX5_find_79 : decode cX5_find 79 = .ok (.iload 7, 2) := by decide +kernel
theorem dX5_find_81 : decode cX5_find 81 = .ok (.iconst 1, 1) := by decide +kernel
theorem dX5_find_82 : decode cX5_find 82 = .ok (.isub, 1) := by decide +kernel
theorem dX5_find_83 : decode cX5_find 83 = .ok (.iaload, 1) := by decide +kernel
theorem dX5_find_84 : decode cX5_find 84 = .ok (.iload 6, 2) := by decide +kernel
theorem dX5_find_86 : decode cX5_find 86 = .ok (.if_icmp .le 25, 3) := by decide +kernel
theorem dX5_find_89 : decode cX5_find 89 = .ok (.aload_n 0, 1) := by decide +kernel
theorem dX5_find_90 : decode cX5_find 90 = .ok (.getfield 51, 3) := by decide +kernel
theorem dX5_find_93 : decode cX5_find 93 = .ok (.iload 7, 2) := by decide +kernel
theorem dX5_find_95 : decode cX5_find 95 = .ok (.aload_n 0, 1) := by decide +kernel
theorem dX5_find_96 : decode cX5_find 96 = .ok (.getfield 51, 3) := by decide +kernel
theorem dX5_find_99 : decode cX5_find 99 = .ok (.iload 7, 2) := by decide +kernel
theorem dX5_find_101 : decode cX5_find 101 = .ok (.iconst 1, 1) := by decide +kernel
theorem dX5_find_102 : decode cX5_find 102 = .ok (.isub, 1) := by decide +kernel
theorem dX5_find_103 : decode cX5_find 103 = .ok (.iaload, 1) := by decide +kernel
theorem dX5_find_104 : decode cX5_find 104 = .ok (.iastore, 1) := by decide +kernel
theorem dX5_find_105 : decode cX5_find 105 = .ok (.iinc 7 (-1), 3) := by decide +kernel
theorem dX5_find_108 : decode cX5_find 108 = .ok (.goto (-38), 3) := by decide +kernel
theorem dX5_find_111 : decode cX5_find 111 = .ok (.aload_n 0, 1) := by decide +kernel
theorem dX5_find_112 : decode cX5_find 112 = .ok (.getfield 51, 3) := by decide +kernel
theorem dX5_find_115 : decode cX5_find 115 = .ok (.iload 7, 2) := by decide +kernel
theorem dX5_find_117 : decode cX5_find 117 = .ok (.iload 6, 2) := by decide +kernel
theorem dX5_find_119 : decode cX5_find 119 = .ok (.iastore, 1) := by decide +kernel
theorem dX5_find_120 : decode cX5_find 120 = .ok (.aload_n 0, 1) := by decide +kernel
theorem dX5_find_121 : decode cX5_find 121 = .ok (.dup, 1) := by decide +kernel
theorem dX5_find_122 : decode cX5_find 122 = .ok (.getfield 112, 3) := by decide +kernel
theorem dX5_find_125 : decode cX5_find 125 = .ok (.iconst 1, 1) := by decide +kernel
theorem dX5_find_126 : decode cX5_find 126 = .ok (.iadd, 1) := by decide +kernel
theorem dX5_find_127 : decode cX5_find 127 = .ok (.putfield 112, 3) := by decide +kernel
theorem dX5_find_130 : decode cX5_find 130 = .ok (.iinc 5 1, 3) := by decide +kernel
theorem dX5_find_133 : decode cX5_find 133 = .ok (.goto (-125), 3) := by decide +kernel
theorem dX5_find_136 : decode cX5_find 136 = .ok (.return_, 1) := by decide +kernel
theorem dX5_range_0 : decode cX5_range 0 = .ok (.aload_n 0, 1) := by decide +kernel
theorem dX5_range_1 : decode cX5_range 1 = .ok (.iconst 0, 1) := by decide +kernel
theorem dX5_range_2 : decode cX5_range 2 = .ok (.putfield 60, 3) := by decide +kernel
theorem dX5_range_5 : decode cX5_range 5 = .ok (.iload_n 1, 1) := by decide +kernel
theorem dX5_range_6 : decode cX5_range 6 = .ok (.invokestatic 119, 3) := by decide +kernel
theorem dX5_range_9 : decode cX5_range 9 = .ok (.ifCond .eq 25, 3) := by decide +kernel
theorem dX5_range_12 : decode cX5_range 12 = .ok (.iload_n 2, 1) := by decide +kernel
theorem dX5_range_13 : decode cX5_range 13 = .ok (.invokestatic 122, 3) := by decide +kernel
theorem dX5_range_16 : decode cX5_range 16 = .ok (.ifCond .eq 18, 3) := by decide +kernel
theorem dX5_range_19 : decode cX5_range 19 = .ok (.iload_n 3, 1) := by decide +kernel
theorem dX5_range_20 : decode cX5_range 20 = .ok (.invokestatic 122, 3) := by decide +kernel
theorem dX5_range_23 : decode cX5_range 23 = .ok (.ifCond .eq 11, 3) := by decide +kernel
theorem dX5_range_26 : decode cX5_range 26 = .ok (.iload 4, 2) := by decide +kernel
theorem dX5_range_28 : decode cX5_range 28 = .ok (.invokestatic 85, 3) := by decide +kernel
theorem dX5_range_31 : decode cX5_range 31 = .ok (.ifCond .ne 6, 3) := by decide +kernel
theorem dX5_range_34 : decode cX5_range 34 = .ok (.bipush (-2), 2) := by decide +kernel
theorem dX5_range_36 : decode cX5_range 36 = .ok (.ireturn, 1) := by decide +kernel
theorem dX5_range_37 : decode cX5_range 37 = .ok (.iload 4, 2) := by decide +kernel
theorem dX5_range_39 : decode cX5_range 39 = .ok (.aload_n 0, 1) := by decide +kernel
theorem dX5_range_40 : decode cX5_range 40 = .ok (.getfield 20, 3) := by decide +kernel
theorem dX5_range_43 : decode cX5_range 43 = .ok (.if_icmp .lt 13, 3) := by decide +kernel
theorem dX5_range_46 : decode cX5_range 46 = .ok (.iload_n 3, 1) := by decide +kernel
theorem dX5_range_47 : decode cX5_range 47 = .ok (.iconst (-1), 1) := by decide +kernel
theorem dX5_range_48 : decode cX5_range 48 = .ok (.if_icmp .eq 11, 3) := by decide +kernel
theorem dX5_range_51 : decode cX5_range 51 = .ok (.iload_n 2, 1) := by decide +kernel
theorem dX5_range_52 : decode cX5_range 52 = .ok (.iconst (-1), 1) := by decide +kernel
theorem dX5_range_53 : decode cX5_range 53 = .ok (.if_icmp .ne 6, 3) := by decide +kernel
theorem dX5_range_56 : decode cX5_range 56 = .ok (.bipush (-3), 2) := by decide +kernel
theorem dX5_range_58 : decode cX5_range 58 = .ok (.ireturn, 1) := by decide +kernel
theorem dX5_range_59 : decode cX5_range 59 = .ok (.aload_n 0, 1) := by decide +kernel
theorem dX5_range_60 : decode cX5_range 60 = .ok (.iload_n 1, 1) := by decide +kernel
theorem dX5_range_61 : decode cX5_range 61 = .ok (.iload_n 2, 1) := by decide +kernel
theorem dX5_range_62 : decode cX5_range 62 = .ok (.iload_n 3, 1) := by decide +kernel
theorem dX5_range_63 : decode cX5_range 63 = .ok (.iload 4, 2) := by decide +kernel
theorem dX5_range_65 : decode cX5_range 65 = .ok (.invokevirtual 125, 3) := by decide +kernel
theorem dX5_range_68 : decode cX5_range 68 = .ok (.aload_n 0, 1) := by decide +kernel
theorem dX5_range_69 : decode cX5_range 69 = .ok (.aload_n 0, 1) := by decide +kernel
theorem dX5_range_70 : decode cX5_range 70 = .ok (.getfield 112, 3) := by decide +kernel
theorem dX5_range_73 : decode cX5_range 73 = .ok (.putfield 129, 3) := by decide +kernel
theorem dX5_range_76 : decode cX5_range 76 = .ok (.aload_n 0, 1) := by decide +kernel
theorem dX5_range_77 : decode cX5_range 77 = .ok (.iload_n 1, 1) := by decide +kernel
theorem dX5_range_78 : decode cX5_range 78 = .ok (.putfield 132, 3) := by decide +kernel
theorem dX5_range_81 : decode cX5_range 81 = .ok (.aload_n 0, 1) := by decide +kernel
theorem dX5_range_82 : decode cX5_range 82 = .ok (.iload_n 2, 1) := by decide +kernel
theorem dX5_range_83 : decode cX5_range 83 = .ok (.iload_n 3, 1) := by decide +kernel
theorem dX5_range_84 : decode cX5_range 84 = .ok (.invokestatic 135, 3) := by decide +kernel
theorem dX5_range_87 : decode cX5_range 87 = .ok (.putfield 138, 3) := by decide +kernel
theorem dX5_range_90 : decode cX5_range 90 = .ok (.iconst 0, 1) := by decide +kernel
theorem dX5_range_91 : decode cX5_range 91 = .ok (.istore 5, 2) := by decide +kernel
theorem dX5_range_93 : decode cX5_range 93 = .ok (.iload 5, 2) := by decide +kernel
theorem dX5_range_95 : decode cX5_range 95 = .ok (.aload_n 0, 1) := by decide +kernel
theorem dX5_range_96 : decode cX5_range 96 = .ok (.getfield 112, 3) := by decide +kernel
theorem dX5_range_99 : decode cX5_range 99 = .ok (.if_icmp .ge 23, 3) := by decide +kernel
theorem dX5_range_102 : decode cX5_range 102 = .ok (.aload_n 0, 1) := by decide +kernel
theorem dX5_range_103 : decode cX5_range 103 = .ok (.getfield 33, 3) := by decide +kernel
theorem dX5_range_106 : decode cX5_range 106 = .ok (.iload 5, 2) := by decide +kernel
theorem dX5_range_108 : decode cX5_range 108 = .ok (.aload_n 0, 1) := by decide +kernel
theorem dX5_range_109 : decode cX5_range 109 = .ok (.getfield 51, 3) := by decide +kernel
theorem dX5_range_112 : decode cX5_range 112 = .ok (.iload 5, 2) := by decide +kernel
theorem dX5_range_114 : decode cX5_range 114 = .ok (.iaload, 1) := by decide +kernel
theorem dX5_range_115 : decode cX5_range 115 = .ok (.iastore, 1) := by decide +kernel
theorem dX5_range_116 : decode cX5_range 116 = .ok (.iinc 5 1, 3) := by decide +kernel
theorem dX5_range_119 : decode cX5_range 119 = .ok (.goto (-26), 3) := by decide +kernel
theorem dX5_range_122 : decode cX5_range 122 = .ok (.aload_n 0, 1) := by decide +kernel
theorem dX5_range_123 : decode cX5_range 123 = .ok (.getfield 129, 3) := by decide +kernel
theorem dX5_range_126 : decode cX5_range 126 = .ok (.ireturn, 1) := by decide +kernel
theorem dX5_at_0 : decode cX5_at 0 = .ok (.aload_n 0, 1) := by decide +kernel
theorem dX5_at_1 : decode cX5_at 1 = .ok (.iconst 0, 1) := by decide +kernel
theorem dX5_at_2 : decode cX5_at 2 = .ok (.putfield 60, 3) := by decide +kernel
theorem dX5_at_5 : decode cX5_at 5 = .ok (.iload_n 2, 1) := by decide +kernel
theorem dX5_at_6 : decode cX5_at 6 = .ok (.ifCond .lt 8, 3) := by decide +kernel
theorem dX5_at_9 : decode cX5_at 9 = .ok (.iload_n 2, 1) := by decide +kernel
theorem dX5_at_10 : decode cX5_at 10 = .ok (.iconst 2, 1) := by decide +kernel
theorem dX5_at_11 : decode cX5_at 11 = .ok (.if_icmp .le 6, 3) := by decide +kernel
theorem dX5_at_14 : decode cX5_at 14 = .ok (.bipush (-2), 2) := by decide +kernel
theorem dX5_at_16 : decode cX5_at 16 = .ok (.ireturn, 1) := by decide +kernel
theorem dX5_at_17 : decode cX5_at 17 = .ok (.iload_n 1, 1) := by decide +kernel
theorem dX5_at_18 : decode cX5_at 18 = .ok (.ifCond .lt 11, 3) := by decide +kernel
theorem dX5_at_21 : decode cX5_at 21 = .ok (.iload_n 1, 1) := by decide +kernel
theorem dX5_at_22 : decode cX5_at 22 = .ok (.aload_n 0, 1) := by decide +kernel
theorem dX5_at_23 : decode cX5_at 23 = .ok (.getfield 129, 3) := by decide +kernel
theorem dX5_at_26 : decode cX5_at 26 = .ok (.if_icmp .lt 5, 3) := by decide +kernel
theorem dX5_at_29 : decode cX5_at 29 = .ok (.iconst (-1), 1) := by decide +kernel
theorem dX5_at_30 : decode cX5_at 30 = .ok (.ireturn, 1) := by decide +kernel
theorem dX5_at_31 : decode cX5_at 31 = .ok (.iconst 0, 1) := by decide +kernel
theorem dX5_at_32 : decode cX5_at 32 = .ok (.istore_n 3, 1) := by decide +kernel
theorem dX5_at_33 : decode cX5_at 33 = .ok (.aload_n 0, 1) := by decide +kernel
theorem dX5_at_34 : decode cX5_at 34 = .ok (.getfield 132, 3) := by decide +kernel
theorem dX5_at_37 : decode cX5_at 37 = .ok (.iload_n 3, 1) := by decide +kernel
theorem dX5_at_38 : decode cX5_at 38 = .ok (.invokestatic 64, 3) := by decide +kernel
theorem dX5_at_41 : decode cX5_at 41 = .ok (.iload_n 2, 1) := by decide +kernel
theorem dX5_at_42 : decode cX5_at 42 = .ok (.if_icmp .eq 9, 3) := by decide +kernel
theorem dX5_at_45 : decode cX5_at 45 = .ok (.iinc 3 1, 3) := by decide +kernel
theorem dX5_at_48 : decode cX5_at 48 = .ok (.goto (-15), 3) := by decide +kernel
theorem dX5_at_51 : decode cX5_at 51 = .ok (.aload_n 0, 1) := by decide +kernel
theorem dX5_at_52 : decode cX5_at 52 = .ok (.getfield 33, 3) := by decide +kernel
theorem dX5_at_55 : decode cX5_at 55 = .ok (.iload_n 1, 1) := by decide +kernel
theorem dX5_at_56 : decode cX5_at 56 = .ok (.iaload, 1) := by decide +kernel
theorem dX5_at_57 : decode cX5_at 57 = .ok (.iload_n 3, 1) := by decide +kernel
theorem dX5_at_58 : decode cX5_at 58 = .ok (.invokestatic 68, 3) := by decide +kernel
theorem dX5_at_61 : decode cX5_at 61 = .ok (.ireturn, 1) := by decide +kernel
theorem dX5_seek_0 : decode cX5_seek 0 = .ok (.aload_n 0, 1) := by decide +kernel
theorem dX5_seek_1 : decode cX5_seek 1 = .ok (.iconst 0, 1) := by decide +kernel
theorem dX5_seek_2 : decode cX5_seek 2 = .ok (.putfield 60, 3) := by decide +kernel
theorem dX5_seek_5 : decode cX5_seek 5 = .ok (.iconst 0, 1) := by decide +kernel
theorem dX5_seek_6 : decode cX5_seek 6 = .ok (.istore_n 2, 1) := by decide +kernel
theorem dX5_seek_7 : decode cX5_seek 7 = .ok (.iload_n 2, 1) := by decide +kernel
theorem dX5_seek_8 : decode cX5_seek 8 = .ok (.aload_n 0, 1) := by decide +kernel
theorem dX5_seek_9 : decode cX5_seek 9 = .ok (.getfield 129, 3) := by decide +kernel
theorem dX5_seek_12 : decode cX5_seek 12 = .ok (.if_icmp .ge 26, 3) := by decide +kernel
theorem dX5_seek_15 : decode cX5_seek 15 = .ok (.aload_n 0, 1) := by decide +kernel
theorem dX5_seek_16 : decode cX5_seek 16 = .ok (.getfield 33, 3) := by decide +kernel
theorem dX5_seek_19 : decode cX5_seek 19 = .ok (.iload_n 2, 1) := by decide +kernel
theorem dX5_seek_20 : decode cX5_seek 20 = .ok (.iaload, 1) := by decide +kernel
theorem dX5_seek_21 : decode cX5_seek 21 = .ok (.aload_n 0, 1) := by decide +kernel
theorem dX5_seek_22 : decode cX5_seek 22 = .ok (.getfield 138, 3) := by decide +kernel
theorem dX5_seek_25 : decode cX5_seek 25 = .ok (.invokestatic 68, 3) := by decide +kernel
theorem dX5_seek_28 : decode cX5_seek 28 = .ok (.iload_n 1, 1) := by decide +kernel
theorem dX5_seek_29 : decode cX5_seek 29 = .ok (.if_icmp .ge 9, 3) := by decide +kernel
theorem dX5_seek_32 : decode cX5_seek 32 = .ok (.iinc 2 1, 3) := by decide +kernel
theorem dX5_seek_35 : decode cX5_seek 35 = .ok (.goto (-28), 3) := by decide +kernel
theorem dX5_seek_38 : decode cX5_seek 38 = .ok (.iload_n 2, 1) := by decide +kernel
theorem dX5_seek_39 : decode cX5_seek 39 = .ok (.ireturn, 1) := by decide +kernel
theorem dX5_seconds_0 : decode cX5_seconds 0 = .ok (.aload_n 0, 1) := by decide +kernel
theorem dX5_seconds_1 : decode cX5_seconds 1 = .ok (.iconst 0, 1) := by decide +kernel
theorem dX5_seconds_2 : decode cX5_seconds 2 = .ok (.putfield 60, 3) := by decide +kernel
theorem dX5_seconds_5 : decode cX5_seconds 5 = .ok (.iload_n 1, 1) := by decide +kernel
theorem dX5_seconds_6 : decode cX5_seconds 6 = .ok (.invokestatic 119, 3) := by decide +kernel
theorem dX5_seconds_9 : decode cX5_seconds 9 = .ok (.ifCond .eq 17, 3) := by decide +kernel
theorem dX5_seconds_12 : decode cX5_seconds 12 = .ok (.iload_n 2, 1) := by decide +kernel
theorem dX5_seconds_13 : decode cX5_seconds 13 = .ok (.invokestatic 81, 3) := by decide +kernel
theorem dX5_seconds_16 : decode cX5_seconds 16 = .ok (.ifCond .eq 10, 3) := by decide +kernel
theorem dX5_seconds_19 : decode cX5_seconds 19 = .ok (.iload_n 3, 1) := by decide +kernel
theorem dX5_seconds_20 : decode cX5_seconds 20 = .ok (.invokestatic 85, 3) := by decide +kernel
theorem dX5_seconds_23 : decode cX5_seconds 23 = .ok (.ifCond .ne 6, 3) := by decide +kernel
theorem dX5_seconds_26 : decode cX5_seconds 26 = .ok (.bipush (-2), 2) := by decide +kernel
theorem dX5_seconds_28 : decode cX5_seconds 28 = .ok (.ireturn, 1) := by decide +kernel
theorem dX5_seconds_29 : decode cX5_seconds 29 = .ok (.iload_n 3, 1) := by decide +kernel
theorem dX5_seconds_30 : decode cX5_seconds 30 = .ok (.aload_n 0, 1) := by decide +kernel
theorem dX5_seconds_31 : decode cX5_seconds 31 = .ok (.getfield 20, 3) := by decide +kernel
theorem dX5_seconds_34 : decode cX5_seconds 34 = .ok (.if_icmp .ge 6, 3) := by decide +kernel
theorem dX5_seconds_37 : decode cX5_seconds 37 = .ok (.bipush (-3), 2) := by decide +kernel
theorem dX5_seconds_39 : decode cX5_seconds 39 = .ok (.ireturn, 1) := by decide +kernel
theorem dX5_seconds_40 : decode cX5_seconds 40 = .ok (.aload_n 0, 1) := by decide +kernel
theorem dX5_seconds_41 : decode cX5_seconds 41 = .ok (.iload_n 1, 1) := by decide +kernel
theorem dX5_seconds_42 : decode cX5_seconds 42 = .ok (.iload_n 2, 1) := by decide +kernel
theorem dX5_seconds_43 : decode cX5_seconds 43 = .ok (.iconst (-1), 1) := by decide +kernel
theorem dX5_seconds_44 : decode cX5_seconds 44 = .ok (.iload_n 3, 1) := by decide +kernel
theorem dX5_seconds_45 : decode cX5_seconds 45 = .ok (.invokevirtual 125, 3) := by decide +kernel
theorem dX5_seconds_48 : decode cX5_seconds 48 = .ok (.iconst 0, 1) := by decide +kernel
theorem dX5_seconds_49 : decode cX5_seconds 49 = .ok (.istore 4, 2) := by decide +kernel
theorem dX5_seconds_51 : decode cX5_seconds 51 = .ok (.iconst 0, 1) := by decide +kernel
theorem dX5_seconds_52 : decode cX5_seconds 52 = .ok (.istore 5, 2) := by decide +kernel
theorem dX5_seconds_54 : decode cX5_seconds 54 = .ok (.iload 5, 2) := by decide +kernel
theorem dX5_seconds_56 : decode cX5_seconds 56 = .ok (.aload_n 0, 1) := by decide +kernel
theorem dX5_seconds_57 : decode cX5_seconds 57 = .ok (.getfield 112, 3) := by decide +kernel
theorem dX5_seconds_60 : decode cX5_seconds 60 = .ok (.if_icmp .ge 51, 3) := by decide +kernel
theorem dX5_seconds_63 : decode cX5_seconds 63 = .ok (.iload 4, 2) := by decide +kernel
theorem dX5_seconds_65 : decode cX5_seconds 65 = .ok (.iload 5, 2) := by decide +kernel
theorem dX5_seconds_67 : decode cX5_seconds 67 = .ok (.ifCond .eq 30, 3) := by decide +kernel
theorem dX5_seconds_70 : decode cX5_seconds 70 = .ok (.aload_n 0, 1) := by decide +kernel
theorem dX5_seconds_71 : decode cX5_seconds 71 = .ok (.getfield 51, 3) := by decide +kernel
theorem dX5_seconds_74 : decode cX5_seconds 74 = .ok (.iload 5, 2) := by decide +kernel
theorem dX5_seconds_76 : decode cX5_seconds 76 = .ok (.iaload, 1) := by decide +kernel
theorem dX5_seconds_77 : decode cX5_seconds 77 = .ok (.iconst 1, 1) := by decide +kernel
theorem dX5_seconds_78 : decode cX5_seconds 78 = .ok (.invokestatic 68, 3) := by decide +kernel
theorem dX5_seconds_81 : decode cX5_seconds 81 = .ok (.aload_n 0, 1) := by decide +kernel
theorem dX5_seconds_82 : decode cX5_seconds 82 = .ok (.getfield 51, 3) := by decide +kernel
theorem dX5_seconds_85 : decode cX5_seconds 85 = .ok (.iload 5, 2) := by decide +kernel
theorem dX5_seconds_87 : decode cX5_seconds 87 = .ok (.iconst 1, 1) := by decide +kernel
theorem dX5_seconds_88 : decode cX5_seconds 88 = .ok (.isub, 1) := by decide +kernel
theorem dX5_seconds_89 : decode cX5_seconds 89 = .ok (.iaload, 1) := by decide +kernel
theorem dX5_seconds_90 : decode cX5_seconds 90 = .ok (.iconst 1, 1) := by decide +kernel
theorem dX5_seconds_91 : decode cX5_seconds 91 = .ok (.invokestatic 68, 3) := by decide +kernel
theorem dX5_seconds_94 : decode cX5_seconds 94 = .ok (.if_icmp .eq 7, 3) := by decide +kernel
theorem dX5_seconds_97 : decode cX5_seconds 97 = .ok (.iconst 1, 1) := by decide +kernel
theorem dX5_seconds_98 : decode cX5_seconds 98 = .ok (.goto 4, 3) := by decide +kernel
theorem dX5_seconds_101 : decode cX5_seconds 101 = .ok (.iconst 0, 1) := by decide +kernel
theorem dX5_seconds_102 : decode cX5_seconds 102 = .ok (.iadd, 1) := by decide +kernel
theorem dX5_seconds_103 : decode cX5_seconds 103 = .ok (.istore 4, 2) := by decide +kernel
theorem dX5_seconds_105 : decode cX5_seconds 105 = .ok (.iinc 5 1, 3) := by decide +kernel
theorem dX5_seconds_108 : decode cX5_seconds 108 = .ok (.goto (-54), 3) := by decide +kernel
theorem dX5_seconds_111 : decode cX5_seconds 111 = .ok (.iload 4, 2) := by decide +kernel
theorem dX5_seconds_113 : decode cX5_seconds 113 = .ok (.ireturn, 1) := by decide +kernel
theorem dX5_sum_0 : decode cX5_sum 0 = .ok (.aload_n 0, 1) := by decide +kernel
theorem dX5_sum_1 : decode cX5_sum 1 = .ok (.iconst 0, 1) := by decide +kernel
theorem dX5_sum_2 : decode cX5_sum 2 = .ok (.putfield 60, 3) := by decide +kernel
theorem dX5_sum_5 : decode cX5_sum 5 = .ok (.iload_n 1, 1) := by decide +kernel
theorem dX5_sum_6 : decode cX5_sum 6 = .ok (.invokestatic 119, 3) := by decide +kernel
theorem dX5_sum_9 : decode cX5_sum 9 = .ok (.ifCond .eq 17, 3) := by decide +kernel
theorem dX5_sum_12 : decode cX5_sum 12 = .ok (.iload_n 2, 1) := by decide +kernel
theorem dX5_sum_13 : decode cX5_sum 13 = .ok (.invokestatic 81, 3) := by decide +kernel
theorem dX5_sum_16 : decode cX5_sum 16 = .ok (.ifCond .eq 10, 3) := by decide +kernel
theorem dX5_sum_19 : decode cX5_sum 19 = .ok (.iload_n 3, 1) := by decide +kernel
theorem dX5_sum_20 : decode cX5_sum 20 = .ok (.invokestatic 85, 3) := by decide +kernel
theorem dX5_sum_23 : decode cX5_sum 23 = .ok (.ifCond .ne 7, 3) := by decide +kernel
theorem dX5_sum_26 : decode cX5_sum 26 = .ok (.ldc2_w 141, 3) := by decide +kernel
theorem dX5_sum_29 : decode cX5_sum 29 = .ok (.lreturn, 1) := by decide +kernel
theorem dX5_sum_30 : decode cX5_sum 30 = .ok (.iload_n 3, 1) := by decide +kernel
theorem dX5_sum_31 : decode cX5_sum 31 = .ok (.aload_n 0, 1) := by decide +kernel
theorem dX5_sum_32 : decode cX5_sum 32 = .ok (.getfield 20, 3) := by decide +kernel
theorem dX5_sum_35 : decode cX5_sum 35 = .ok (.if_icmp .ge 7, 3) := by decide +kernel
theorem dX5_sum_38 : decode cX5_sum 38 = .ok (.ldc2_w 143, 3) := by decide +kernel
theorem dX5_sum_41 : decode cX5_sum 41 = .ok (.lreturn, 1) := by decide +kernel
theorem dX5_sum_42 : decode cX5_sum 42 = .ok (.aload_n 0, 1) := by decide +kernel
theorem dX5_sum_43 : decode cX5_sum 43 = .ok (.iload_n 1, 1) := by decide +kernel
theorem dX5_sum_44 : decode cX5_sum 44 = .ok (.iload_n 2, 1) := by decide +kernel
theorem dX5_sum_45 : decode cX5_sum 45 = .ok (.iconst (-1), 1) := by decide +kernel
theorem dX5_sum_46 : decode cX5_sum 46 = .ok (.iload_n 3, 1) := by decide +kernel
theorem dX5_sum_47 : decode cX5_sum 47 = .ok (.invokevirtual 125, 3) := by decide +kernel
theorem dX5_sum_50 : decode cX5_sum 50 = .ok (.lconst 0, 1) := by decide +kernel
theorem dX5_sum_51 : decode cX5_sum 51 = .ok (.lstore 4, 2) := by decide +kernel
theorem dX5_sum_53 : decode cX5_sum 53 = .ok (.iconst 0, 1) := by decide +kernel
theorem dX5_sum_54 : decode cX5_sum 54 = .ok (.istore 6, 2) := by decide +kernel
theorem dX5_sum_56 : decode cX5_sum 56 = .ok (.iload 6, 2) := by decide +kernel
theorem dX5_sum_58 : decode cX5_sum 58 = .ok (.aload_n 0, 1) := by decide +kernel
theorem dX5_sum_59 : decode cX5_sum 59 = .ok (.getfield 112, 3) := by decide +kernel
theorem dX5_sum_62 : decode cX5_sum 62 = .ok (.if_icmp .ge 26, 3) := by decide +kernel
theorem dX5_sum_65 : decode cX5_sum 65 = .ok (.lload 4, 2) := by decide +kernel
theorem dX5_sum_67 : decode cX5_sum 67 = .ok (.aload_n 0, 1) := by decide +kernel
theorem dX5_sum_68 : decode cX5_sum 68 = .ok (.getfield 51, 3) := by decide +kernel
theorem dX5_sum_71 : decode cX5_sum 71 = .ok (.iload 6, 2) := by decide +kernel
theorem dX5_sum_73 : decode cX5_sum 73 = .ok (.iaload, 1) := by decide +kernel
theorem dX5_sum_74 : decode cX5_sum 74 = .ok (.iconst 2, 1) := by decide +kernel
theorem dX5_sum_75 : decode cX5_sum 75 = .ok (.invokestatic 68, 3) := by decide +kernel
theorem dX5_sum_78 : decode cX5_sum 78 = .ok (.i2l, 1) := by decide +kernel
theorem dX5_sum_79 : decode cX5_sum 79 = .ok (.ladd, 1) := by decide +kernel
theorem dX5_sum_80 : decode cX5_sum 80 = .ok (.lstore 4, 2) := by decide +kernel
theorem dX5_sum_82 : decode cX5_sum 82 = .ok (.iinc 6 1, 3) := by decide +kernel
theorem dX5_sum_85 : decode cX5_sum 85 = .ok (.goto (-29), 3) := by decide +kernel
theorem dX5_sum_88 : decode cX5_sum 88 = .ok (.lload 4, 2) := by decide +kernel
theorem dX5_sum_90 : decode cX5_sum 90 = .ok (.lreturn, 1) := by decide +kernel
theorem dX5_lead_0 : decode cX5_lead 0 = .ok (.aload_n 0, 1) := by decide +kernel
theorem dX5_lead_1 : decode cX5_lead 1 = .ok (.iconst 0, 1) := by decide +kernel
theorem dX5_lead_2 : decode cX5_lead 2 = .ok (.putfield 60, 3) := by decide +kernel
theorem dX5_lead_5 : decode cX5_lead 5 = .ok (.iload_n 1, 1) := by decide +kernel
theorem dX5_lead_6 : decode cX5_lead 6 = .ok (.invokestatic 119, 3) := by decide +kernel
theorem dX5_lead_9 : decode cX5_lead 9 = .ok (.ifCond .eq 17, 3) := by decide +kernel
theorem dX5_lead_12 : decode cX5_lead 12 = .ok (.iload_n 2, 1) := by decide +kernel
theorem dX5_lead_13 : decode cX5_lead 13 = .ok (.invokestatic 122, 3) := by decide +kernel
theorem dX5_lead_16 : decode cX5_lead 16 = .ok (.ifCond .eq 10, 3) := by decide +kernel
theorem dX5_lead_19 : decode cX5_lead 19 = .ok (.iload_n 3, 1) := by decide +kernel
theorem dX5_lead_20 : decode cX5_lead 20 = .ok (.invokestatic 122, 3) := by decide +kernel
theorem dX5_lead_23 : decode cX5_lead 23 = .ok (.ifCond .ne 6, 3) := by decide +kernel
theorem dX5_lead_26 : decode cX5_lead 26 = .ok (.bipush (-2), 2) := by decide +kernel
theorem dX5_lead_28 : decode cX5_lead 28 = .ok (.ireturn, 1) := by decide +kernel
theorem dX5_lead_29 : decode cX5_lead 29 = .ok (.iload_n 3, 1) := by decide +kernel
theorem dX5_lead_30 : decode cX5_lead 30 = .ok (.iconst (-1), 1) := by decide +kernel
theorem dX5_lead_31 : decode cX5_lead 31 = .ok (.if_icmp .eq 11, 3) := by decide +kernel
theorem dX5_lead_34 : decode cX5_lead 34 = .ok (.iload_n 2, 1) := by decide +kernel
theorem dX5_lead_35 : decode cX5_lead 35 = .ok (.iconst (-1), 1) := by decide +kernel
theorem dX5_lead_36 : decode cX5_lead 36 = .ok (.if_icmp .ne 6, 3) := by decide +kernel
theorem dX5_lead_39 : decode cX5_lead 39 = .ok (.bipush (-3), 2) := by decide +kernel
theorem dX5_lead_41 : decode cX5_lead 41 = .ok (.ireturn, 1) := by decide +kernel
theorem dX5_lead_42 : decode cX5_lead 42 = .ok (.aload_n 0, 1) := by decide +kernel
theorem dX5_lead_43 : decode cX5_lead 43 = .ok (.getfield 145, 3) := by decide +kernel
theorem dX5_lead_46 : decode cX5_lead 46 = .ok (.iconst 4, 1) := by decide +kernel
theorem dX5_lead_47 : decode cX5_lead 47 = .ok (.if_icmp .ne 6, 3) := by decide +kernel
theorem dX5_lead_50 : decode cX5_lead 50 = .ok (.bipush (-4), 2) := by decide +kernel
theorem dX5_lead_52 : decode cX5_lead 52 = .ok (.ireturn, 1) := by decide +kernel
theorem dX5_lead_53 : decode cX5_lead 53 = .ok (.aload_n 0, 1) := by decide +kernel
theorem dX5_lead_54 : decode cX5_lead 54 = .ok (.getfield 36, 3) := by decide +kernel
theorem dX5_lead_57 : decode cX5_lead 57 = .ok (.aload_n 0, 1) := by decide +kernel
theorem dX5_lead_58 : decode cX5_lead 58 = .ok (.getfield 145, 3) := by decide +kernel
theorem dX5_lead_61 : decode cX5_lead 61 = .ok (.iload_n 1, 1) := by decide +kernel
theorem dX5_lead_62 : decode cX5_lead 62 = .ok (.iastore, 1) := by decide +kernel
theorem dX5_lead_63 : decode cX5_lead 63 = .ok (.aload_n 0, 1) := by decide +kernel
theorem dX5_lead_64 : decode cX5_lead 64 = .ok (.getfield 39, 3) := by decide +kernel
theorem dX5_lead_67 : decode cX5_lead 67 = .ok (.aload_n 0, 1) := by decide +kernel
theorem dX5_lead_68 : decode cX5_lead 68 = .ok (.getfield 145, 3) := by decide +kernel
theorem dX5_lead_71 : decode cX5_lead 71 = .ok (.iload_n 2, 1) := by decide +kernel
theorem dX5_lead_72 : decode cX5_lead 72 = .ok (.iastore, 1) := by decide +kernel
theorem dX5_lead_73 : decode cX5_lead 73 = .ok (.aload_n 0, 1) := by decide +kernel
theorem dX5_lead_74 : decode cX5_lead 74 = .ok (.getfield 42, 3) := by decide +kernel
theorem dX5_lead_77 : decode cX5_lead 77 = .ok (.aload_n 0, 1) := by decide +kernel
theorem dX5_lead_78 : decode cX5_lead 78 = .ok (.getfield 145, 3) := by decide +kernel
theorem dX5_lead_81 : decode cX5_lead 81 = .ok (.iload_n 3, 1) := by decide +kernel
theorem dX5_lead_82 : decode cX5_lead 82 = .ok (.iastore, 1) := by decide +kernel
theorem dX5_lead_83 : decode cX5_lead 83 = .ok (.aload_n 0, 1) := by decide +kernel
theorem dX5_lead_84 : decode cX5_lead 84 = .ok (.dup, 1) := by decide +kernel
theorem dX5_lead_85 : decode cX5_lead 85 = .ok (.getfield 145, 3) := by decide +kernel
theorem dX5_lead_88 : decode cX5_lead 88 = .ok (.iconst 1, 1) := by decide +kernel
theorem dX5_lead_89 : decode cX5_lead 89 = .ok (.iadd, 1) := by decide +kernel
theorem dX5_lead_90 : decode cX5_lead 90 = .ok (.putfield 145, 3) := by decide +kernel
theorem dX5_lead_93 : decode cX5_lead 93 = .ok (.aload_n 0, 1) := by decide +kernel
theorem dX5_lead_94 : decode cX5_lead 94 = .ok (.getfield 145, 3) := by decide +kernel
theorem dX5_lead_97 : decode cX5_lead 97 = .ok (.ireturn, 1) := by decide +kernel
theorem dX5_leap_0 : decode cX5_leap 0 = .ok (.aload_n 0, 1) := by decide +kernel
theorem dX5_leap_1 : decode cX5_leap 1 = .ok (.iconst 0, 1) := by decide +kernel
theorem dX5_leap_2 : decode cX5_leap 2 = .ok (.putfield 60, 3) := by decide +kernel
theorem dX5_leap_5 : decode cX5_leap 5 = .ok (.iload_n 1, 1) := by decide +kernel
theorem dX5_leap_6 : decode cX5_leap 6 = .ok (.invokestatic 85, 3) := by decide +kernel
theorem dX5_leap_9 : decode cX5_leap 9 = .ok (.ifCond .ne 6, 3) := by decide +kernel
theorem dX5_leap_12 : decode cX5_leap 12 = .ok (.bipush (-2), 2) := by decide +kernel
theorem dX5_leap_14 : decode cX5_leap 14 = .ok (.ireturn, 1) := by decide +kernel
theorem dX5_leap_15 : decode cX5_leap 15 = .ok (.iload_n 1, 1) := by decide +kernel
theorem dX5_leap_16 : decode cX5_leap 16 = .ok (.aload_n 0, 1) := by decide +kernel
theorem dX5_leap_17 : decode cX5_leap 17 = .ok (.getfield 20, 3) := by decide +kernel
theorem dX5_leap_20 : decode cX5_leap 20 = .ok (.if_icmp .ge 6, 3) := by decide +kernel
theorem dX5_leap_23 : decode cX5_leap 23 = .ok (.bipush (-3), 2) := by decide +kernel
theorem dX5_leap_25 : decode cX5_leap 25 = .ok (.ireturn, 1) := by decide +kernel
theorem dX5_leap_26 : decode cX5_leap 26 = .ok (.iconst 0, 1) := by decide +kernel
theorem dX5_leap_27 : decode cX5_leap 27 = .ok (.istore_n 2, 1) := by decide +kernel
theorem dX5_leap_28 : decode cX5_leap 28 = .ok (.iload_n 2, 1) := by decide +kernel
theorem dX5_leap_29 : decode cX5_leap 29 = .ok (.sipush 1000, 3) := by decide +kernel
theorem dX5_leap_32 : decode cX5_leap 32 = .ok (.if_icmp .ge 16, 3) := by decide +kernel
theorem dX5_leap_35 : decode cX5_leap 35 = .ok (.aload_n 0, 1) := by decide +kernel
theorem dX5_leap_36 : decode cX5_leap 36 = .ok (.getfield 54, 3) := by decide +kernel
theorem dX5_leap_39 : decode cX5_leap 39 = .ok (.iload_n 2, 1) := by decide +kernel
theorem dX5_leap_40 : decode cX5_leap 40 = .ok (.iconst 0, 1) := by decide +kernel
theorem dX5_leap_41 : decode cX5_leap 41 = .ok (.iastore, 1) := by decide +kernel
theorem dX5_leap_42 : decode cX5_leap 42 = .ok (.iinc 2 1, 3) := by decide +kernel
theorem dX5_leap_45 : decode cX5_leap 45 = .ok (.goto (-17), 3) := by decide +kernel
theorem dX5_leap_48 : decode cX5_leap 48 = .ok (.iconst 0, 1) := by decide +kernel
theorem dX5_leap_49 : decode cX5_leap 49 = .ok (.istore_n 2, 1) := by decide +kernel
theorem dX5_leap_50 : decode cX5_leap 50 = .ok (.iload_n 2, 1) := by decide +kernel
theorem dX5_leap_51 : decode cX5_leap 51 = .ok (.aload_n 0, 1) := by decide +kernel
theorem dX5_leap_52 : decode cX5_leap 52 = .ok (.getfield 145, 3) := by decide +kernel
theorem dX5_leap_55 : decode cX5_leap 55 = .ok (.if_icmp .ge 110, 3) := by decide +kernel
theorem dX5_leap_58 : decode cX5_leap 58 = .ok (.aload_n 0, 1) := by decide +kernel
theorem dX5_leap_59 : decode cX5_leap 59 = .ok (.aload_n 0, 1) := by decide +kernel
theorem dX5_leap_60 : decode cX5_leap 60 = .ok (.getfield 36, 3) := by decide +kernel
theorem dX5_leap_63 : decode cX5_leap 63 = .ok (.iload_n 2, 1) := by decide +kernel
theorem dX5_leap_64 : decode cX5_leap 64 = .ok (.iaload, 1) := by decide +kernel
theorem dX5_leap_65 : decode cX5_leap 65 = .ok (.aload_n 0, 1) := by decide +kernel
theorem dX5_leap_66 : decode cX5_leap 66 = .ok (.getfield 39, 3) := by decide +kernel
theorem dX5_leap_69 : decode cX5_leap 69 = .ok (.iload_n 2, 1) := by decide +kernel
theorem dX5_leap_70 : decode cX5_leap 70 = .ok (.iaload, 1) := by decide +kernel
theorem dX5_leap_71 : decode cX5_leap 71 = .ok (.aload_n 0, 1) := by decide +kernel
theorem dX5_leap_72 : decode cX5_leap 72 = .ok (.getfield 42, 3) := by decide +kernel
theorem dX5_leap_75 : decode cX5_leap 75 = .ok (.iload_n 2, 1) := by decide +kernel
theorem dX5_leap_76 : decode cX5_leap 76 = .ok (.iaload, 1) := by decide +kernel
theorem dX5_leap_77 : decode cX5_leap 77 = .ok (.iload_n 1, 1) := by decide +kernel
theorem dX5_leap_78 : decode cX5_leap 78 = .ok (.invokevirtual 125, 3) := by decide +kernel
theorem dX5_leap_81 : decode cX5_leap 81 = .ok (.aload_n 0, 1) := by decide +kernel
theorem dX5_leap_82 : decode cX5_leap 82 = .ok (.getfield 39, 3) := by decide +kernel
theorem dX5_leap_85 : decode cX5_leap 85 = .ok (.iload_n 2, 1) := by decide +kernel
theorem dX5_leap_86 : decode cX5_leap 86 = .ok (.iaload, 1) := by decide +kernel
theorem dX5_leap_87 : decode cX5_leap 87 = .ok (.aload_n 0, 1) := by decide +kernel
theorem dX5_leap_88 : decode cX5_leap 88 = .ok (.getfield 42, 3) := by decide +kernel
theorem dX5_leap_91 : decode cX5_leap 91 = .ok (.iload_n 2, 1) := by decide +kernel
theorem dX5_leap_92 : decode cX5_leap 92 = .ok (.iaload, 1) := by decide +kernel
theorem dX5_leap_93 : decode cX5_leap 93 = .ok (.invokestatic 135, 3) := by decide +kernel
theorem dX5_leap_96 : decode cX5_leap 96 = .ok (.istore_n 3, 1) := by decide +kernel
theorem dX5_leap_97 : decode cX5_leap 97 = .ok (.iconst 0, 1) := by decide +kernel
theorem dX5_leap_98 : decode cX5_leap 98 = .ok (.istore 4, 2) := by decide +kernel
theorem dX5_leap_100 : decode cX5_leap 100 = .ok (.iload 4, 2) := by decide +kernel
theorem dX5_leap_102 : decode cX5_leap 102 = .ok (.aload_n 0, 1) := by decide +kernel
theorem dX5_leap_103 : decode cX5_leap 103 = .ok (.getfield 112, 3) := by decide +kernel
theorem dX5_leap_106 : decode cX5_leap 106 = .ok (.if_icmp .ge 53, 3) := by decide +kernel
theorem dX5_leap_109 : decode cX5_leap 109 = .ok (.aload_n 0, 1) := by decide +kernel
theorem dX5_leap_110 : decode cX5_leap 110 = .ok (.getfield 51, 3) := by decide +kernel
theorem dX5_leap_113 : decode cX5_leap 113 = .ok (.iload 4, 2) := by decide +kernel
theorem dX5_leap_115 : decode cX5_leap 115 = .ok (.iaload, 1) := by decide +kernel
theorem dX5_leap_116 : decode cX5_leap 116 = .ok (.iload_n 3, 1) := by decide +kernel
theorem dX5_leap_117 : decode cX5_leap 117 = .ok (.invokestatic 68, 3) := by decide +kernel
theorem dX5_leap_120 : decode cX5_leap 120 = .ok (.istore 5, 2) := by decide +kernel
theorem dX5_leap_122 : decode cX5_leap 122 = .ok (.aload_n 0, 1) := by decide +kernel
theorem dX5_leap_123 : decode cX5_leap 123 = .ok (.getfield 54, 3) := by decide +kernel
theorem dX5_leap_126 : decode cX5_leap 126 = .ok (.iload 5, 2) := by decide +kernel
theorem dX5_leap_128 : decode cX5_leap 128 = .ok (.aload_n 0, 1) := by decide +kernel
theorem dX5_leap_129 : decode cX5_leap 129 = .ok (.getfield 54, 3) := by decide +kernel
theorem dX5_leap_132 : decode cX5_leap 132 = .ok (.iload 5, 2) := by decide +kernel
theorem dX5_leap_134 : decode cX5_leap 134 = .ok (.iaload, 1) := by decide +kernel
theorem dX5_leap_135 : decode cX5_leap 135 = .ok (.iload_n 2, 1) := by decide +kernel
theorem dX5_leap_136 : decode cX5_leap 136 = .ok (.if_icmp .ne 9, 3) := by decide +kernel
theorem dX5_leap_139 : decode cX5_leap 139 = .ok (.iload_n 2, 1) := by decide +kernel
theorem dX5_leap_140 : decode cX5_leap 140 = .ok (.iconst 1, 1) := by decide +kernel
theorem dX5_leap_141 : decode cX5_leap 141 = .ok (.iadd, 1) := by decide +kernel
theorem dX5_leap_142 : decode cX5_leap 142 = .ok (.goto 10, 3) := by decide +kernel
theorem dX5_leap_145 : decode cX5_leap 145 = .ok (.aload_n 0, 1) := by decide +kernel
theorem dX5_leap_146 : decode cX5_leap 146 = .ok (.getfield 54, 3) := by decide +kernel
theorem dX5_leap_149 : decode cX5_leap 149 = .ok (.iload 5, 2) := by decide +kernel
theorem dX5_leap_151 : decode cX5_leap 151 = .ok (.iaload, 1) := by decide +kernel
theorem dX5_leap_152 : decode cX5_leap 152 = .ok (.iastore, 1) := by decide +kernel
theorem dX5_leap_153 : decode cX5_leap 153 = .ok (.iinc 4 1, 3) := by decide +kernel
theorem dX5_leap_156 : decode cX5_leap 156 = .ok (.goto (-56), 3) := by decide +kernel
theorem dX5_leap_159 : decode cX5_leap 159 = .ok (.iinc 2 1, 3) := by decide +kernel
theorem dX5_leap_162 : decode cX5_leap 162 = .ok (.goto (-112), 3) := by decide +kernel
theorem dX5_leap_165 : decode cX5_leap 165 = .ok (.aload_n 0, 1) := by decide +kernel
theorem dX5_leap_166 : decode cX5_leap 166 = .ok (.iconst 0, 1) := by decide +kernel
theorem dX5_leap_167 : decode cX5_leap 167 = .ok (.putfield 148, 3) := by decide +kernel
theorem dX5_leap_170 : decode cX5_leap 170 = .ok (.iconst 0, 1) := by decide +kernel
theorem dX5_leap_171 : decode cX5_leap 171 = .ok (.istore_n 2, 1) := by decide +kernel
theorem dX5_leap_172 : decode cX5_leap 172 = .ok (.iload_n 2, 1) := by decide +kernel
theorem dX5_leap_173 : decode cX5_leap 173 = .ok (.sipush 1000, 3) := by decide +kernel
theorem dX5_leap_176 : decode cX5_leap 176 = .ok (.if_icmp .ge 49, 3) := by decide +kernel
theorem dX5_leap_179 : decode cX5_leap 179 = .ok (.aload_n 0, 1) := by decide +kernel
theorem dX5_leap_180 : decode cX5_leap 180 = .ok (.getfield 145, 3) := by decide +kernel
theorem dX5_leap_183 : decode cX5_leap 183 = .ok (.ifCond .le 36, 3) := by decide +kernel
theorem dX5_leap_186 : decode cX5_leap 186 = .ok (.aload_n 0, 1) := by decide +kernel
theorem dX5_leap_187 : decode cX5_leap 187 = .ok (.getfield 54, 3) := by decide +kernel
theorem dX5_leap_190 : decode cX5_leap 190 = .ok (.iload_n 2, 1) := by decide +kernel
theorem dX5_leap_191 : decode cX5_leap 191 = .ok (.iaload, 1) := by decide +kernel
theorem dX5_leap_192 : decode cX5_leap 192 = .ok (.aload_n 0, 1) := by decide +kernel
theorem dX5_leap_193 : decode cX5_leap 193 = .ok (.getfield 145, 3) := by decide +kernel
theorem dX5_leap_196 : decode cX5_leap 196 = .ok (.if_icmp .ne 23, 3) := by decide +kernel
theorem dX5_leap_199 : decode cX5_leap 199 = .ok (.aload_n 0, 1) := by decide +kernel
theorem dX5_leap_200 : decode cX5_leap 200 = .ok (.getfield 45, 3) := by decide +kernel
theorem dX5_leap_203 : decode cX5_leap 203 = .ok (.aload_n 0, 1) := by decide +kernel
theorem dX5_leap_204 : decode cX5_leap 204 = .ok (.getfield 148, 3) := by decide +kernel
theorem dX5_leap_207 : decode cX5_leap 207 = .ok (.iload_n 2, 1) := by decide +kernel
theorem dX5_leap_208 : decode cX5_leap 208 = .ok (.iastore, 1) := by decide +kernel
theorem dX5_leap_209 : decode cX5_leap 209 = .ok (.aload_n 0, 1) := by decide +kernel
theorem dX5_leap_210 : decode cX5_leap 210 = .ok (.dup, 1) := by decide +kernel
theorem dX5_leap_211 : decode cX5_leap 211 = .ok (.getfield 148, 3) := by decide +kernel
theorem dX5_leap_214 : decode cX5_leap 214 = .ok (.iconst 1, 1) := by decide +kernel
theorem dX5_leap_215 : decode cX5_leap 215 = .ok (.iadd, 1) := by decide +kernel
theorem dX5_leap_216 : decode cX5_leap 216 = .ok (.putfield 148, 3) := by decide +kernel
theorem dX5_leap_219 : decode cX5_leap 219 = .ok (.iinc 2 1, 3) := by decide +kernel
theorem dX5_leap_222 : decode cX5_leap 222 = .ok (.goto (-50), 3) := by decide +kernel
theorem dX5_leap_225 : decode cX5_leap 225 = .ok (.aload_n 0, 1) := by decide +kernel
theorem dX5_leap_226 : decode cX5_leap 226 = .ok (.iconst 0, 1) := by decide +kernel
theorem dX5_leap_227 : decode cX5_leap 227 = .ok (.putfield 145, 3) := by decide +kernel
theorem dX5_leap_230 : decode cX5_leap 230 = .ok (.aload_n 0, 1) := by decide +kernel
theorem dX5_leap_231 : decode cX5_leap 231 = .ok (.getfield 148, 3) := by decide +kernel
theorem dX5_leap_234 : decode cX5_leap 234 = .ok (.ireturn, 1) := by decide +kernel
theorem dX5_found_0 : decode cX5_found 0 = .ok (.aload_n 0, 1) := by decide +kernel
theorem dX5_found_1 : decode cX5_found 1 = .ok (.iconst 0, 1) := by decide +kernel
theorem dX5_found_2 : decode cX5_found 2 = .ok (.putfield 60, 3) := by decide +kernel
theorem dX5_found_5 : decode cX5_found 5 = .ok (.iload_n 1, 1) := by decide +kernel
theorem dX5_found_6 : decode cX5_found 6 = .ok (.ifCond .lt 11, 3) := by decide +kernel
theorem dX5_found_9 : decode cX5_found 9 = .ok (.iload_n 1, 1) := by decide +kernel
theorem dX5_found_10 : decode cX5_found 10 = .ok (.aload_n 0, 1) := by decide +kernel
theorem dX5_found_11 : decode cX5_found 11 = .ok (.getfield 148, 3) := by decide +kernel
theorem dX5_found_14 : decode cX5_found 14 = .ok (.if_icmp .lt 7, 3) := by decide +kernel
theorem dX5_found_17 : decode cX5_found 17 = .ok (.iconst (-1), 1) := by decide +kernel
theorem dX5_found_18 : decode cX5_found 18 = .ok (.goto 9, 3) := by decide +kernel
theorem dX5_found_21 : decode cX5_found 21 = .ok (.aload_n 0, 1) := by decide +kernel
theorem dX5_found_22 : decode cX5_found 22 = .ok (.getfield 45, 3) := by decide +kernel
theorem dX5_found_25 : decode cX5_found 25 = .ok (.iload_n 1, 1) := by decide +kernel
theorem dX5_found_26 : decode cX5_found 26 = .ok (.iaload, 1) := by decide +kernel
theorem dX5_found_27 : decode cX5_found 27 = .ok (.ireturn, 1) := by decide +kernel
theorem dX5_pages_0 : decode cX5_pages 0 = .ok (.aload_n 0, 1) := by decide +kernel
theorem dX5_pages_1 : decode cX5_pages 1 = .ok (.iconst 0, 1) := by decide +kernel
theorem dX5_pages_2 : decode cX5_pages 2 = .ok (.putfield 60, 3) := by decide +kernel
theorem dX5_pages_5 : decode cX5_pages 5 = .ok (.iload_n 1, 1) := by decide +kernel
theorem dX5_pages_6 : decode cX5_pages 6 = .ok (.invokestatic 119, 3) := by decide +kernel
theorem dX5_pages_9 : decode cX5_pages 9 = .ok (.ifCond .eq 12, 3) := by decide +kernel
theorem dX5_pages_12 : decode cX5_pages 12 = .ok (.aload_n 0, 1) := by decide +kernel
theorem dX5_pages_13 : decode cX5_pages 13 = .ok (.getfield 30, 3) := by decide +kernel
theorem dX5_pages_16 : decode cX5_pages 16 = .ok (.iload_n 1, 1) := by decide +kernel
theorem dX5_pages_17 : decode cX5_pages 17 = .ok (.iaload, 1) := by decide +kernel
theorem dX5_pages_18 : decode cX5_pages 18 = .ok (.goto 5, 3) := by decide +kernel
theorem dX5_pages_21 : decode cX5_pages 21 = .ok (.bipush (-2), 2) := by decide +kernel
theorem dX5_pages_23 : decode cX5_pages 23 = .ok (.ireturn, 1) := by decide +kernel
theorem dX5_begin_0 : decode cX5_begin 0 = .ok (.sipush 400, 3) := by decide +kernel
theorem dX5_begin_3 : decode cX5_begin 3 = .ok (.iload_n 1, 1) := by decide +kernel
theorem dX5_begin_4 : decode cX5_begin 4 = .ok (.imul, 1) := by decide +kernel
theorem dX5_begin_5 : decode cX5_begin 5 = .ok (.istore_n 3, 1) := by decide +kernel
theorem dX5_begin_6 : decode cX5_begin 6 = .ok (.iconst 0, 1) := by decide +kernel
theorem dX5_begin_7 : decode cX5_begin 7 = .ok (.istore 4, 2) := by decide +kernel
theorem dX5_begin_9 : decode cX5_begin 9 = .ok (.iload 4, 2) := by decide +kernel
theorem dX5_begin_11 : decode cX5_begin 11 = .ok (.iload_n 2, 1) := by decide +kernel
theorem dX5_begin_12 : decode cX5_begin 12 = .ok (.if_icmp .ge 25, 3) := by decide +kernel
theorem dX5_begin_15 : decode cX5_begin 15 = .ok (.iload_n 3, 1) := by decide +kernel
theorem dX5_begin_16 : decode cX5_begin 16 = .ok (.aload_n 0, 1) := by decide +kernel
theorem dX5_begin_17 : decode cX5_begin 17 = .ok (.getfield 27, 3) := by decide +kernel
theorem dX5_begin_20 : decode cX5_begin 20 = .ok (.sipush 400, 3) := by decide +kernel
theorem dX5_begin_23 : decode cX5_begin 23 = .ok (.iload_n 1, 1) := by decide +kernel
theorem dX5_begin_24 : decode cX5_begin 24 = .ok (.imul, 1) := by decide +kernel
theorem dX5_begin_25 : decode cX5_begin 25 = .ok (.iload 4, 2) := by decide +kernel
theorem dX5_begin_27 : decode cX5_begin 27 = .ok (.iadd, 1) := by decide +kernel
theorem dX5_begin_28 : decode cX5_begin 28 = .ok (.iaload, 1) := by decide +kernel
theorem dX5_begin_29 : decode cX5_begin 29 = .ok (.iadd, 1) := by decide +kernel
theorem dX5_begin_30 : decode cX5_begin 30 = .ok (.istore_n 3, 1) := by decide +kernel
theorem dX5_begin_31 : decode cX5_begin 31 = .ok (.iinc 4 1, 3) := by decide +kernel
theorem dX5_begin_34 : decode cX5_begin 34 = .ok (.goto (-25), 3) := by decide +kernel
theorem dX5_begin_37 : decode cX5_begin 37 = .ok (.iload_n 3, 1) := by decide +kernel
theorem dX5_begin_38 : decode cX5_begin 38 = .ok (.ireturn, 1) := by decide +kernel
theorem dX5_page_0 : decode cX5_page 0 = .ok (.aload_n 0, 1) := by decide +kernel
theorem dX5_page_1 : decode cX5_page 1 = .ok (.iconst 0, 1) := by decide +kernel
theorem dX5_page_2 : decode cX5_page 2 = .ok (.putfield 60, 3) := by decide +kernel
theorem dX5_page_5 : decode cX5_page 5 = .ok (.iload_n 1, 1) := by decide +kernel
theorem dX5_page_6 : decode cX5_page 6 = .ok (.invokestatic 119, 3) := by decide +kernel
theorem dX5_page_9 : decode cX5_page 9 = .ok (.ifCond .eq 12, 3) := by decide +kernel
theorem dX5_page_12 : decode cX5_page 12 = .ok (.iload_n 3, 1) := by decide +kernel
theorem dX5_page_13 : decode cX5_page 13 = .ok (.ifCond .lt 8, 3) := by decide +kernel
theorem dX5_page_16 : decode cX5_page 16 = .ok (.iload_n 3, 1) := by decide +kernel
theorem dX5_page_17 : decode cX5_page 17 = .ok (.iconst 3, 1) := by decide +kernel
theorem dX5_page_18 : decode cX5_page 18 = .ok (.if_icmp .le 6, 3) := by decide +kernel
theorem dX5_page_21 : decode cX5_page 21 = .ok (.bipush (-2), 2) := by decide +kernel
theorem dX5_page_23 : decode cX5_page 23 = .ok (.ireturn, 1) := by decide +kernel
theorem dX5_page_24 : decode cX5_page 24 = .ok (.iload_n 2, 1) := by decide +kernel
theorem dX5_page_25 : decode cX5_page 25 = .ok (.ifCond .lt 13, 3) := by decide +kernel
theorem dX5_page_28 : decode cX5_page 28 = .ok (.iload_n 2, 1) := by decide +kernel
theorem dX5_page_29 : decode cX5_page 29 = .ok (.aload_n 0, 1) := by decide +kernel
theorem dX5_page_30 : decode cX5_page 30 = .ok (.getfield 30, 3) := by decide +kernel
theorem dX5_page_33 : decode cX5_page 33 = .ok (.iload_n 1, 1) := by decide +kernel
theorem dX5_page_34 : decode cX5_page 34 = .ok (.iaload, 1) := by decide +kernel
theorem dX5_page_35 : decode cX5_page 35 = .ok (.if_icmp .lt 5, 3) := by decide +kernel
theorem dX5_page_38 : decode cX5_page 38 = .ok (.iconst (-1), 1) := by decide +kernel
theorem dX5_page_39 : decode cX5_page 39 = .ok (.ireturn, 1) := by decide +kernel
theorem dX5_page_40 : decode cX5_page 40 = .ok (.iload_n 3, 1) := by decide +kernel
theorem dX5_page_41 : decode cX5_page 41 = .ok (.ifCond .ne 18, 3) := by decide +kernel
theorem dX5_page_44 : decode cX5_page 44 = .ok (.aload_n 0, 1) := by decide +kernel
theorem dX5_page_45 : decode cX5_page 45 = .ok (.getfield 27, 3) := by decide +kernel
theorem dX5_page_48 : decode cX5_page 48 = .ok (.sipush 400, 3) := by decide +kernel
theorem dX5_page_51 : decode cX5_page 51 = .ok (.iload_n 1, 1) := by decide +kernel
theorem dX5_page_52 : decode cX5_page 52 = .ok (.imul, 1) := by decide +kernel
theorem dX5_page_53 : decode cX5_page 53 = .ok (.iload_n 2, 1) := by decide +kernel
theorem dX5_page_54 : decode cX5_page 54 = .ok (.iadd, 1) := by decide +kernel
theorem dX5_page_55 : decode cX5_page 55 = .ok (.iaload, 1) := by decide +kernel
theorem dX5_page_56 : decode cX5_page 56 = .ok (.goto 20, 3) := by decide +kernel
theorem dX5_page_59 : decode cX5_page 59 = .ok (.aload_n 0, 1) := by decide +kernel
theorem dX5_page_60 : decode cX5_page 60 = .ok (.getfield 24, 3) := by decide +kernel
theorem dX5_page_63 : decode cX5_page 63 = .ok (.aload_n 0, 1) := by decide +kernel
theorem dX5_page_64 : decode cX5_page 64 = .ok (.iload_n 1, 1) := by decide +kernel
theorem dX5_page_65 : decode cX5_page 65 = .ok (.iload_n 2, 1) := by decide +kernel
theorem dX5_page_66 : decode cX5_page 66 = .ok (.invokevirtual 151, 3) := by decide +kernel
theorem dX5_page_69 : decode cX5_page 69 = .ok (.iaload, 1) := by decide +kernel
theorem dX5_page_70 : decode cX5_page 70 = .ok (.iload_n 3, 1) := by decide +kernel
theorem dX5_page_71 : decode cX5_page 71 = .ok (.iconst 1, 1) := by decide +kernel
theorem dX5_page_72 : decode cX5_page 72 = .ok (.isub, 1) := by decide +kernel
theorem dX5_page_73 : decode cX5_page 73 = .ok (.invokestatic 68, 3) := by decide +kernel
theorem dX5_page_76 : decode cX5_page 76 = .ok (.ireturn, 1) := by decide +kernel
theorem dX5_mark_0 : decode cX5_mark 0 = .ok (.aload_n 0, 1) := by decide +kernel
theorem dX5_mark_1 : decode cX5_mark 1 = .ok (.iconst 0, 1) := by decide +kernel
theorem dX5_mark_2 : decode cX5_mark 2 = .ok (.putfield 60, 3) := by decide +kernel
theorem dX5_mark_5 : decode cX5_mark 5 = .ok (.iload_n 1, 1) := by decide +kernel
theorem dX5_mark_6 : decode cX5_mark 6 = .ok (.invokestatic 119, 3) := by decide +kernel
theorem dX5_mark_9 : decode cX5_mark 9 = .ok (.ifCond .eq 17, 3) := by decide +kernel
theorem dX5_mark_12 : decode cX5_mark 12 = .ok (.iload_n 2, 1) := by decide +kernel
theorem dX5_mark_13 : decode cX5_mark 13 = .ok (.ifCond .lt 13, 3) := by decide +kernel
theorem dX5_mark_16 : decode cX5_mark 16 = .ok (.iload_n 2, 1) := by decide +kernel
theorem dX5_mark_17 : decode cX5_mark 17 = .ok (.aload_n 0, 1) := by decide +kernel
theorem dX5_mark_18 : decode cX5_mark 18 = .ok (.getfield 30, 3) := by decide +kernel
theorem dX5_mark_21 : decode cX5_mark 21 = .ok (.iload_n 1, 1) := by decide +kernel
theorem dX5_mark_22 : decode cX5_mark 22 = .ok (.iaload, 1) := by decide +kernel
theorem dX5_mark_23 : decode cX5_mark 23 = .ok (.if_icmp .lt 5, 3) := by decide +kernel
theorem dX5_mark_26 : decode cX5_mark 26 = .ok (.iconst 0, 1) := by decide +kernel
theorem dX5_mark_27 : decode cX5_mark 27 = .ok (.ireturn, 1) := by decide +kernel
theorem dX5_mark_28 : decode cX5_mark 28 = .ok (.aload_n 0, 1) := by decide +kernel
theorem dX5_mark_29 : decode cX5_mark 29 = .ok (.iload_n 1, 1) := by decide +kernel
theorem dX5_mark_30 : decode cX5_mark 30 = .ok (.iload_n 2, 1) := by decide +kernel
theorem dX5_mark_31 : decode cX5_mark 31 = .ok (.invokevirtual 151, 3) := by decide +kernel
theorem dX5_mark_34 : decode cX5_mark 34 = .ok (.istore_n 3, 1) := by decide +kernel
theorem dX5_mark_35 : decode cX5_mark 35 = .ok (.iconst 0, 1) := by decide +kernel
theorem dX5_mark_36 : decode cX5_mark 36 = .ok (.istore 4, 2) := by decide +kernel
theorem dX5_mark_38 : decode cX5_mark 38 = .ok (.iload_n 3, 1) := by decide +kernel
theorem dX5_mark_39 : decode cX5_mark 39 = .ok (.istore 5, 2) := by decide +kernel
theorem dX5_mark_41 : decode cX5_mark 41 = .ok (.iload 5, 2) := by decide +kernel
theorem dX5_mark_43 : decode cX5_mark 43 = .ok (.iload_n 3, 1) := by decide +kernel
theorem dX5_mark_44 : decode cX5_mark 44 = .ok (.aload_n 0, 1) := by decide +kernel
theorem dX5_mark_45 : decode cX5_mark 45 = .ok (.getfield 27, 3) := by decide +kernel
theorem dX5_mark_48 : decode cX5_mark 48 = .ok (.sipush 400, 3) := by decide +kernel
theorem dX5_mark_51 : decode cX5_mark 51 = .ok (.iload_n 1, 1) := by decide +kernel
theorem dX5_mark_52 : decode cX5_mark 52 = .ok (.imul, 1) := by decide +kernel
theorem dX5_mark_53 : decode cX5_mark 53 = .ok (.iload_n 2, 1) := by decide +kernel
theorem dX5_mark_54 : decode cX5_mark 54 = .ok (.iadd, 1) := by decide +kernel
theorem dX5_mark_55 : decode cX5_mark 55 = .ok (.iaload, 1) := by decide +kernel
theorem dX5_mark_56 : decode cX5_mark 56 = .ok (.iadd, 1) := by decide +kernel
theorem dX5_mark_57 : decode cX5_mark 57 = .ok (.if_icmp .ge 57, 3) := by decide +kernel
theorem dX5_mark_60 : decode cX5_mark 60 = .ok (.iconst 0, 1) := by decide +kernel
theorem dX5_mark_61 : decode cX5_mark 61 = .ok (.istore 6, 2) := by decide +kernel
theorem dX5_mark_63 : decode cX5_mark 63 = .ok (.iload 6, 2) := by decide +kernel
theorem dX5_mark_65 : decode cX5_mark 65 = .ok (.iconst 3, 1) := by decide +kernel
theorem dX5_mark_66 : decode cX5_mark 66 = .ok (.if_icmp .ge 42, 3) := by decide +kernel
theorem dX5_mark_69 : decode cX5_mark 69 = .ok (.iload 4, 2) := by decide +kernel
theorem dX5_mark_71 : decode cX5_mark 71 = .ok (.aload_n 0, 1) := by decide +kernel
theorem dX5_mark_72 : decode cX5_mark 72 = .ok (.getfield 24, 3) := by decide +kernel
theorem dX5_mark_75 : decode cX5_mark 75 = .ok (.iload 5, 2) := by decide +kernel
theorem dX5_mark_77 : decode cX5_mark 77 = .ok (.iaload, 1) := by decide +kernel
theorem dX5_mark_78 : decode cX5_mark 78 = .ok (.iload 6, 2) := by decide +kernel
theorem dX5_mark_80 : decode cX5_mark 80 = .ok (.invokestatic 68, 3) := by decide +kernel
theorem dX5_mark_83 : decode cX5_mark 83 = .ok (.ixor, 1) := by decide +kernel
theorem dX5_mark_84 : decode cX5_mark 84 = .ok (.istore 7, 2) := by decide +kernel
theorem dX5_mark_86 : decode cX5_mark 86 = .ok (.iload 7, 2) := by decide +kernel
theorem dX5_mark_88 : decode cX5_mark 88 = .ok (.bipush 11, 2) := by decide +kernel
theorem dX5_mark_90 : decode cX5_mark 90 = .ok (.ishl, 1) := by decide +kernel
theorem dX5_mark_91 : decode cX5_mark 91 = .ok (.iload 7, 2) := by decide +kernel
theorem dX5_mark_93 : decode cX5_mark 93 = .ok (.bipush 21, 2) := by decide +kernel
theorem dX5_mark_95 : decode cX5_mark 95 = .ok (.iushr, 1) := by decide +kernel
theorem dX5_mark_96 : decode cX5_mark 96 = .ok (.ior, 1) := by decide +kernel
theorem dX5_mark_97 : decode cX5_mark 97 = .ok (.ldc 154, 2) := by decide +kernel
theorem dX5_mark_99 : decode cX5_mark 99 = .ok (.imul, 1) := by decide +kernel
theorem dX5_mark_100 : decode cX5_mark 100 = .ok (.istore 4, 2) := by decide +kernel
theorem dX5_mark_102 : decode cX5_mark 102 = .ok (.iinc 6 1, 3) := by decide +kernel
theorem dX5_mark_105 : decode cX5_mark 105 = .ok (.goto (-42), 3) := by decide +kernel
theorem dX5_mark_108 : decode cX5_mark 108 = .ok (.iinc 5 1, 3) := by decide +kernel
theorem dX5_mark_111 : decode cX5_mark 111 = .ok (.goto (-70), 3) := by decide +kernel
theorem dX5_mark_114 : decode cX5_mark 114 = .ok (.iload 4, 2) := by decide +kernel
theorem dX5_mark_116 : decode cX5_mark 116 = .ok (.ireturn, 1) := by decide +kernel
theorem dX5_count_0 : decode cX5_count 0 = .ok (.aload_n 0, 1) := by decide +kernel
theorem dX5_count_1 : decode cX5_count 1 = .ok (.iconst 0, 1) := by decide +kernel
theorem dX5_count_2 : decode cX5_count 2 = .ok (.putfield 60, 3) := by decide +kernel
theorem dX5_count_5 : decode cX5_count 5 = .ok (.iload_n 1, 1) := by decide +kernel
theorem dX5_count_6 : decode cX5_count 6 = .ok (.tableswitch 59 0 4 #[34, 39, 44, 49, 54], 34) := by decide +kernel
theorem dX5_count_40 : decode cX5_count 40 = .ok (.aload_n 0, 1) := by decide +kernel
theorem dX5_count_41 : decode cX5_count 41 = .ok (.getfield 74, 3) := by decide +kernel
theorem dX5_count_44 : decode cX5_count 44 = .ok (.ireturn, 1) := by decide +kernel
theorem dX5_count_45 : decode cX5_count 45 = .ok (.aload_n 0, 1) := by decide +kernel
theorem dX5_count_46 : decode cX5_count 46 = .ok (.getfield 71, 3) := by decide +kernel
theorem dX5_count_49 : decode cX5_count 49 = .ok (.ireturn, 1) := by decide +kernel
theorem dX5_count_50 : decode cX5_count 50 = .ok (.aload_n 0, 1) := by decide +kernel
theorem dX5_count_51 : decode cX5_count 51 = .ok (.getfield 145, 3) := by decide +kernel
theorem dX5_count_54 : decode cX5_count 54 = .ok (.ireturn, 1) := by decide +kernel
theorem dX5_count_55 : decode cX5_count 55 = .ok (.aload_n 0, 1) := by decide +kernel
theorem dX5_count_56 : decode cX5_count 56 = .ok (.invokevirtual 88, 3) := by decide +kernel
theorem dX5_count_59 : decode cX5_count 59 = .ok (.ireturn, 1) := by decide +kernel
theorem dX5_count_60 : decode cX5_count 60 = .ok (.aload_n 0, 1) := by decide +kernel
theorem dX5_count_61 : decode cX5_count 61 = .ok (.getfield 20, 3) := by decide +kernel
theorem dX5_count_64 : decode cX5_count 64 = .ok (.ireturn, 1) := by decide +kernel
theorem dX5_count_65 : decode cX5_count 65 = .ok (.bipush (-2), 2) := by decide +kernel
theorem dX5_count_67 : decode cX5_count 67 = .ok (.ireturn, 1) := by decide +kernel
theorem dX5_clear_0 : decode cX5_clear 0 = .ok (.aload_n 0, 1) := by decide +kernel
theorem dX5_clear_1 : decode cX5_clear 1 = .ok (.iconst 0, 1) := by decide +kernel
theorem dX5_clear_2 : decode cX5_clear 2 = .ok (.putfield 60, 3) := by decide +kernel
theorem dX5_clear_5 : decode cX5_clear 5 = .ok (.aload_n 0, 1) := by decide +kernel
theorem dX5_clear_6 : decode cX5_clear 6 = .ok (.iconst 0, 1) := by decide +kernel
theorem dX5_clear_7 : decode cX5_clear 7 = .ok (.putfield 71, 3) := by decide +kernel
theorem dX5_clear_10 : decode cX5_clear 10 = .ok (.aload_n 0, 1) := by decide +kernel
theorem dX5_clear_11 : decode cX5_clear 11 = .ok (.iconst (-1), 1) := by decide +kernel
theorem dX5_clear_12 : decode cX5_clear 12 = .ok (.putfield 20, 3) := by decide +kernel
theorem dX5_clear_15 : decode cX5_clear 15 = .ok (.aload_n 0, 1) := by decide +kernel
theorem dX5_clear_16 : decode cX5_clear 16 = .ok (.iconst 0, 1) := by decide +kernel
theorem dX5_clear_17 : decode cX5_clear 17 = .ok (.putfield 74, 3) := by decide +kernel
theorem dX5_clear_20 : decode cX5_clear 20 = .ok (.aload_n 0, 1) := by decide +kernel
theorem dX5_clear_21 : decode cX5_clear 21 = .ok (.iconst 0, 1) := by decide +kernel
theorem dX5_clear_22 : decode cX5_clear 22 = .ok (.putfield 129, 3) := by decide +kernel
theorem dX5_clear_25 : decode cX5_clear 25 = .ok (.aload_n 0, 1) := by decide +kernel
theorem dX5_clear_26 : decode cX5_clear 26 = .ok (.iconst 0, 1) := by decide +kernel
theorem dX5_clear_27 : decode cX5_clear 27 = .ok (.putfield 145, 3) := by decide +kernel
theorem dX5_clear_30 : decode cX5_clear 30 = .ok (.aload_n 0, 1) := by decide +kernel
theorem dX5_clear_31 : decode cX5_clear 31 = .ok (.iconst 0, 1) := by decide +kernel
theorem dX5_clear_32 : decode cX5_clear 32 = .ok (.putfield 148, 3) := by decide +kernel
theorem dX5_clear_35 : decode cX5_clear 35 = .ok (.iconst 0, 1) := by decide +kernel
theorem dX5_clear_36 : decode cX5_clear 36 = .ok (.istore_n 1, 1) := by decide +kernel
theorem dX5_clear_37 : decode cX5_clear 37 = .ok (.iload_n 1, 1) := by decide +kernel
theorem dX5_clear_38 : decode cX5_clear 38 = .ok (.bipush 6, 2) := by decide +kernel
theorem dX5_clear_40 : decode cX5_clear 40 = .ok (.if_icmp .ge 16, 3) := by decide +kernel
theorem dX5_clear_43 : decode cX5_clear 43 = .ok (.aload_n 0, 1) := by decide +kernel
theorem dX5_clear_44 : decode cX5_clear 44 = .ok (.getfield 30, 3) := by decide +kernel
theorem dX5_clear_47 : decode cX5_clear 47 = .ok (.iload_n 1, 1) := by decide +kernel
theorem dX5_clear_48 : decode cX5_clear 48 = .ok (.iconst 0, 1) := by decide +kernel
theorem dX5_clear_49 : decode cX5_clear 49 = .ok (.iastore, 1) := by decide +kernel
theorem dX5_clear_50 : decode cX5_clear 50 = .ok (.iinc 1 1, 3) := by decide +kernel
theorem dX5_clear_53 : decode cX5_clear 53 = .ok (.goto (-16), 3) := by decide +kernel
theorem dX5_clear_56 : decode cX5_clear 56 = .ok (.return_, 1) := by decide +kernel
