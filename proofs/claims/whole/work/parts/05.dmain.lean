theorem dX4_init_0 : decode cX4_init 0 = .ok (.aload_n 0, 1) := by decide +kernel
theorem dX4_init_1 : decode cX4_init 1 = .ok (.invokespecial 1, 3) := by decide +kernel
theorem dX4_init_4 : decode cX4_init 4 = .ok (.iconst 1, 1) := by decide +kernel
theorem dX4_init_5 : decode cX4_init 5 = .ok (.iload_n 1, 1) := by decide +kernel
theorem dX4_init_6 : decode cX4_init 6 = .ok (.sipush 400, 3) := by decide +kernel
theorem dX4_init_9 : decode cX4_init 9 = .ok (.invokestatic 9, 3) := by decide +kernel
theorem dX4_init_12 : decode cX4_init 12 = .ok (.invokestatic 15, 3) := by decide +kernel
theorem dX4_init_15 : decode cX4_init 15 = .ok (.istore_n 2, 1) := by decide +kernel
theorem dX4_init_16 : decode cX4_init 16 = .ok (.aload_n 0, 1) := by decide +kernel
theorem dX4_init_17 : decode cX4_init 17 = .ok (.new 18, 3) := by decide +kernel
theorem dX4_init_20 : decode cX4_init 20 = .ok (.dup, 1) := by decide +kernel
theorem dX4_init_21 : decode cX4_init 21 = .ok (.iload_n 2, 1) := by decide +kernel
theorem dX4_init_22 : decode cX4_init 22 = .ok (.invokespecial 20, 3) := by decide +kernel
theorem dX4_init_25 : decode cX4_init 25 = .ok (.putfield 23, 3) := by decide +kernel
theorem dX4_init_28 : decode cX4_init 28 = .ok (.aload_n 0, 1) := by decide +kernel
theorem dX4_init_29 : decode cX4_init 29 = .ok (.bipush 6, 2) := by decide +kernel
theorem dX4_init_31 : decode cX4_init 31 = .ok (.anewarray 27, 3) := by decide +kernel
theorem dX4_init_34 : decode cX4_init 34 = .ok (.putfield 29, 3) := by decide +kernel
theorem dX4_init_37 : decode cX4_init 37 = .ok (.iconst 0, 1) := by decide +kernel
theorem dX4_init_38 : decode cX4_init 38 = .ok (.istore_n 3, 1) := by decide +kernel
theorem dX4_init_39 : decode cX4_init 39 = .ok (.iload_n 3, 1) := by decide +kernel
theorem dX4_init_40 : decode cX4_init 40 = .ok (.bipush 6, 2) := by decide +kernel
theorem dX4_init_42 : decode cX4_init 42 = .ok (.if_icmp .ge 23, 3) := by decide +kernel
theorem dX4_init_45 : decode cX4_init 45 = .ok (.aload_n 0, 1) := by decide +kernel
theorem dX4_init_46 : decode cX4_init 46 = .ok (.getfield 29, 3) := by decide +kernel
theorem dX4_init_49 : decode cX4_init 49 = .ok (.iload_n 3, 1) := by decide +kernel
theorem dX4_init_50 : decode cX4_init 50 = .ok (.new 27, 3) := by decide +kernel
theorem dX4_init_53 : decode cX4_init 53 = .ok (.dup, 1) := by decide +kernel
theorem dX4_init_54 : decode cX4_init 54 = .ok (.iload_n 2, 1) := by decide +kernel
theorem dX4_init_55 : decode cX4_init 55 = .ok (.invokespecial 33, 3) := by decide +kernel
theorem dX4_init_58 : decode cX4_init 58 = .ok (.aastore, 1) := by decide +kernel
theorem dX4_init_59 : decode cX4_init 59 = .ok (.iinc 3 1, 3) := by decide +kernel
theorem dX4_init_62 : decode cX4_init 62 = .ok (.goto (-23), 3) := by decide +kernel
theorem dX4_init_65 : decode cX4_init 65 = .ok (.aload_n 0, 1) := by decide +kernel
theorem dX4_init_66 : decode cX4_init 66 = .ok (.new 34, 3) := by decide +kernel
theorem dX4_init_69 : decode cX4_init 69 = .ok (.dup, 1) := by decide +kernel
theorem dX4_init_70 : decode cX4_init 70 = .ok (.iload_n 2, 1) := by decide +kernel
theorem dX4_init_71 : decode cX4_init 71 = .ok (.invokespecial 36, 3) := by decide +kernel
theorem dX4_init_74 : decode cX4_init 74 = .ok (.putfield 37, 3) := by decide +kernel
theorem dX4_init_77 : decode cX4_init 77 = .ok (.aload_n 0, 1) := by decide +kernel
theorem dX4_init_78 : decode cX4_init 78 = .ok (.new 41, 3) := by decide +kernel
theorem dX4_init_81 : decode cX4_init 81 = .ok (.dup, 1) := by decide +kernel
theorem dX4_init_82 : decode cX4_init 82 = .ok (.invokespecial 43, 3) := by decide +kernel
theorem dX4_init_85 : decode cX4_init 85 = .ok (.putfield 44, 3) := by decide +kernel
theorem dX4_init_88 : decode cX4_init 88 = .ok (.aload_n 0, 1) := by decide +kernel
theorem dX4_init_89 : decode cX4_init 89 = .ok (.new 41, 3) := by decide +kernel
theorem dX4_init_92 : decode cX4_init 92 = .ok (.dup, 1) := by decide +kernel
theorem dX4_init_93 : decode cX4_init 93 = .ok (.invokespecial 43, 3) := by decide +kernel
theorem dX4_init_96 : decode cX4_init 96 = .ok (.putfield 48, 3) := by decide +kernel
theorem dX4_init_99 : decode cX4_init 99 = .ok (.aload_n 0, 1) := by decide +kernel
theorem dX4_init_100 : decode cX4_init 100 = .ok (.iconst 4, 1) := by decide +kernel
theorem dX4_init_101 : decode cX4_init 101 = .ok (.anewarray 41, 3) := by decide +kernel
theorem dX4_init_104 : decode cX4_init 104 = .ok (.putfield 51, 3) := by decide +kernel
theorem dX4_init_107 : decode cX4_init 107 = .ok (.iconst 0, 1) := by decide +kernel
theorem dX4_init_108 : decode cX4_init 108 = .ok (.istore_n 3, 1) := by decide +kernel
theorem dX4_init_109 : decode cX4_init 109 = .ok (.iload_n 3, 1) := by decide +kernel
theorem dX4_init_110 : decode cX4_init 110 = .ok (.iconst 4, 1) := by decide +kernel
theorem dX4_init_111 : decode cX4_init 111 = .ok (.if_icmp .ge 22, 3) := by decide +kernel
theorem dX4_init_114 : decode cX4_init 114 = .ok (.aload_n 0, 1) := by decide +kernel
theorem dX4_init_115 : decode cX4_init 115 = .ok (.getfield 51, 3) := by decide +kernel
theorem dX4_init_118 : decode cX4_init 118 = .ok (.iload_n 3, 1) := by decide +kernel
theorem dX4_init_119 : decode cX4_init 119 = .ok (.new 41, 3) := by decide +kernel
theorem dX4_init_122 : decode cX4_init 122 = .ok (.dup, 1) := by decide +kernel
theorem dX4_init_123 : decode cX4_init 123 = .ok (.invokespecial 43, 3) := by decide +kernel
theorem dX4_init_126 : decode cX4_init 126 = .ok (.aastore, 1) := by decide +kernel
theorem dX4_init_127 : decode cX4_init 127 = .ok (.iinc 3 1, 3) := by decide +kernel
theorem dX4_init_130 : decode cX4_init 130 = .ok (.goto (-21), 3) := by decide +kernel
theorem dX4_init_133 : decode cX4_init 133 = .ok (.aload_n 0, 1) := by decide +kernel
theorem dX4_init_134 : decode cX4_init 134 = .ok (.iconst 0, 1) := by decide +kernel
theorem dX4_init_135 : decode cX4_init 135 = .ok (.putfield 55, 3) := by decide +kernel
theorem dX4_init_138 : decode cX4_init 138 = .ok (.aload_n 0, 1) := by decide +kernel
theorem dX4_init_139 : decode cX4_init 139 = .ok (.new 34, 3) := by decide +kernel
theorem dX4_init_142 : decode cX4_init 142 = .ok (.dup, 1) := by decide +kernel
theorem dX4_init_143 : decode cX4_init 143 = .ok (.iload_n 2, 1) := by decide +kernel
theorem dX4_init_144 : decode cX4_init 144 = .ok (.invokespecial 36, 3) := by decide +kernel
theorem dX4_init_147 : decode cX4_init 147 = .ok (.putfield 59, 3) := by decide +kernel
theorem dX4_init_150 : decode cX4_init 150 = .ok (.aload_n 0, 1) := by decide +kernel
theorem dX4_init_151 : decode cX4_init 151 = .ok (.sipush 1000, 3) := by decide +kernel
theorem dX4_init_154 : decode cX4_init 154 = .ok (.newarray .int, 2) := by decide +kernel
theorem dX4_init_156 : decode cX4_init 156 = .ok (.putfield 62, 3) := by decide +kernel
theorem dX4_init_159 : decode cX4_init 159 = .ok (.return_, 1) := by decide +kernel
theorem dX4_add_0 : decode cX4_add 0 = .ok (.aload_n 0, 1) := by decide +kernel
theorem dX4_add_1 : decode cX4_add 1 = .ok (.iload_n 1, 1) := by decide +kernel
theorem dX4_add_2 : decode cX4_add 2 = .ok (.iload_n 2, 1) := by decide +kernel
theorem dX4_add_3 : decode cX4_add 3 = .ok (.iload_n 3, 1) := by decide +kernel
theorem dX4_add_4 : decode cX4_add 4 = .ok (.iload 4, 2) := by decide +kernel
theorem dX4_add_6 : decode cX4_add 6 = .ok (.invokevirtual 66, 3) := by decide +kernel
theorem dX4_add_9 : decode cX4_add 9 = .ok (.istore 5, 2) := by decide +kernel
theorem dX4_add_11 : decode cX4_add 11 = .ok (.iload 5, 2) := by decide +kernel
theorem dX4_add_13 : decode cX4_add 13 = .ok (.ifCond .eq 6, 3) := by decide +kernel
theorem dX4_add_16 : decode cX4_add 16 = .ok (.iload 5, 2) := by decide +kernel
theorem dX4_add_18 : decode cX4_add 18 = .ok (.ireturn, 1) := by decide +kernel
theorem dX4_add_19 : decode cX4_add 19 = .ok (.aload_n 0, 1) := by decide +kernel
theorem dX4_add_20 : decode cX4_add 20 = .ok (.iload_n 1, 1) := by decide +kernel
theorem dX4_add_21 : decode cX4_add 21 = .ok (.iload_n 2, 1) := by decide +kernel
theorem dX4_add_22 : decode cX4_add 22 = .ok (.iload_n 3, 1) := by decide +kernel
theorem dX4_add_23 : decode cX4_add 23 = .ok (.invokevirtual 70, 3) := by decide +kernel
theorem dX4_add_26 : decode cX4_add 26 = .ok (.ifCond .eq 5, 3) := by decide +kernel
theorem dX4_add_29 : decode cX4_add 29 = .ok (.iconst 0, 1) := by decide +kernel
theorem dX4_add_30 : decode cX4_add 30 = .ok (.ireturn, 1) := by decide +kernel
theorem dX4_add_31 : decode cX4_add 31 = .ok (.aload_n 0, 1) := by decide +kernel
theorem dX4_add_32 : decode cX4_add 32 = .ok (.getfield 23, 3) := by decide +kernel
theorem dX4_add_35 : decode cX4_add 35 = .ok (.invokevirtual 74, 3) := by decide +kernel
theorem dX4_add_38 : decode cX4_add 38 = .ok (.ifCond .eq 6, 3) := by decide +kernel
theorem dX4_add_41 : decode cX4_add 41 = .ok (.bipush (-4), 2) := by decide +kernel
theorem dX4_add_43 : decode cX4_add 43 = .ok (.ireturn, 1) := by decide +kernel
theorem dX4_add_44 : decode cX4_add 44 = .ok (.aload_n 0, 1) := by decide +kernel
theorem dX4_add_45 : decode cX4_add 45 = .ok (.getfield 23, 3) := by decide +kernel
theorem dX4_add_48 : decode cX4_add 48 = .ok (.iload_n 1, 1) := by decide +kernel
theorem dX4_add_49 : decode cX4_add 49 = .ok (.iload_n 2, 1) := by decide +kernel
theorem dX4_add_50 : decode cX4_add 50 = .ok (.iload_n 3, 1) := by decide +kernel
theorem dX4_add_51 : decode cX4_add 51 = .ok (.iload 4, 2) := by decide +kernel
theorem dX4_add_53 : decode cX4_add 53 = .ok (.invokevirtual 78, 3) := by decide +kernel
theorem dX4_add_56 : decode cX4_add 56 = .ok (.iconst 0, 1) := by decide +kernel
theorem dX4_add_57 : decode cX4_add 57 = .ok (.istore 6, 2) := by decide +kernel
theorem dX4_add_59 : decode cX4_add 59 = .ok (.iload 6, 2) := by decide +kernel
theorem dX4_add_61 : decode cX4_add 61 = .ok (.bipush 6, 2) := by decide +kernel
theorem dX4_add_63 : decode cX4_add 63 = .ok (.if_icmp .ge 27, 3) := by decide +kernel
theorem dX4_add_66 : decode cX4_add 66 = .ok (.aload_n 0, 1) := by decide +kernel
theorem dX4_add_67 : decode cX4_add 67 = .ok (.getfield 29, 3) := by decide +kernel
theorem dX4_add_70 : decode cX4_add 70 = .ok (.iload 6, 2) := by decide +kernel
theorem dX4_add_72 : decode cX4_add 72 = .ok (.aaload, 1) := by decide +kernel
theorem dX4_add_73 : decode cX4_add 73 = .ok (.iload 6, 2) := by decide +kernel
theorem dX4_add_75 : decode cX4_add 75 = .ok (.iload_n 1, 1) := by decide +kernel
theorem dX4_add_76 : decode cX4_add 76 = .ok (.iload_n 2, 1) := by decide +kernel
theorem dX4_add_77 : decode cX4_add 77 = .ok (.iload_n 3, 1) := by decide +kernel
theorem dX4_add_78 : decode cX4_add 78 = .ok (.invokestatic 82, 3) := by decide +kernel
theorem dX4_add_81 : decode cX4_add 81 = .ok (.invokevirtual 85, 3) := by decide +kernel
theorem dX4_add_84 : decode cX4_add 84 = .ok (.iinc 6 1, 3) := by decide +kernel
theorem dX4_add_87 : decode cX4_add 87 = .ok (.goto (-28), 3) := by decide +kernel
theorem dX4_add_90 : decode cX4_add 90 = .ok (.iconst 1, 1) := by decide +kernel
theorem dX4_add_91 : decode cX4_add 91 = .ok (.ireturn, 1) := by decide +kernel
theorem dX4_remove_0 : decode cX4_remove 0 = .ok (.aload_n 0, 1) := by decide +kernel
theorem dX4_remove_1 : decode cX4_remove 1 = .ok (.iload_n 1, 1) := by decide +kernel
theorem dX4_remove_2 : decode cX4_remove 2 = .ok (.iload_n 2, 1) := by decide +kernel
theorem dX4_remove_3 : decode cX4_remove 3 = .ok (.iload_n 3, 1) := by decide +kernel
theorem dX4_remove_4 : decode cX4_remove 4 = .ok (.iload 4, 2) := by decide +kernel
theorem dX4_remove_6 : decode cX4_remove 6 = .ok (.invokevirtual 66, 3) := by decide +kernel
theorem dX4_remove_9 : decode cX4_remove 9 = .ok (.istore 5, 2) := by decide +kernel
theorem dX4_remove_11 : decode cX4_remove 11 = .ok (.iload 5, 2) := by decide +kernel
theorem dX4_remove_13 : decode cX4_remove 13 = .ok (.ifCond .eq 6, 3) := by decide +kernel
theorem dX4_remove_16 : decode cX4_remove 16 = .ok (.iload 5, 2) := by decide +kernel
theorem dX4_remove_18 : decode cX4_remove 18 = .ok (.ireturn, 1) := by decide +kernel
theorem dX4_remove_19 : decode cX4_remove 19 = .ok (.aload_n 0, 1) := by decide +kernel
theorem dX4_remove_20 : decode cX4_remove 20 = .ok (.iload_n 1, 1) := by decide +kernel
theorem dX4_remove_21 : decode cX4_remove 21 = .ok (.iload_n 2, 1) := by decide +kernel
theorem dX4_remove_22 : decode cX4_remove 22 = .ok (.iload_n 3, 1) := by decide +kernel
theorem dX4_remove_23 : decode cX4_remove 23 = .ok (.invokevirtual 70, 3) := by decide +kernel
theorem dX4_remove_26 : decode cX4_remove 26 = .ok (.ifCond .ne 5, 3) := by decide +kernel
theorem dX4_remove_29 : decode cX4_remove 29 = .ok (.iconst 0, 1) := by decide +kernel
theorem dX4_remove_30 : decode cX4_remove 30 = .ok (.ireturn, 1) := by decide +kernel
theorem dX4_remove_31 : decode cX4_remove 31 = .ok (.aload_n 0, 1) := by decide +kernel
theorem dX4_remove_32 : decode cX4_remove 32 = .ok (.getfield 23, 3) := by decide +kernel
theorem dX4_remove_35 : decode cX4_remove 35 = .ok (.invokevirtual 74, 3) := by decide +kernel
theorem dX4_remove_38 : decode cX4_remove 38 = .ok (.ifCond .eq 6, 3) := by decide +kernel
theorem dX4_remove_41 : decode cX4_remove 41 = .ok (.bipush (-4), 2) := by decide +kernel
theorem dX4_remove_43 : decode cX4_remove 43 = .ok (.ireturn, 1) := by decide +kernel
theorem dX4_remove_44 : decode cX4_remove 44 = .ok (.aload_n 0, 1) := by decide +kernel
theorem dX4_remove_45 : decode cX4_remove 45 = .ok (.getfield 23, 3) := by decide +kernel
theorem dX4_remove_48 : decode cX4_remove 48 = .ok (.iload_n 1, 1) := by decide +kernel
theorem dX4_remove_49 : decode cX4_remove 49 = .ok (.iload_n 2, 1) := by decide +kernel
theorem dX4_remove_50 : decode cX4_remove 50 = .ok (.iload_n 3, 1) := by decide +kernel
theorem dX4_remove_51 : decode cX4_remove 51 = .ok (.iload 4, 2) := by decide +kernel
theorem dX4_remove_53 : decode cX4_remove 53 = .ok (.invokevirtual 88, 3) := by decide +kernel
theorem dX4_remove_56 : decode cX4_remove 56 = .ok (.iconst 0, 1) := by decide +kernel
theorem dX4_remove_57 : decode cX4_remove 57 = .ok (.istore 6, 2) := by decide +kernel
theorem dX4_remove_59 : decode cX4_remove 59 = .ok (.iload 6, 2) := by decide +kernel
theorem dX4_remove_61 : decode cX4_remove 61 = .ok (.bipush 6, 2) := by decide +kernel
theorem dX4_remove_63 : decode cX4_remove 63 = .ok (.if_icmp .ge 27, 3) := by decide +kernel
theorem dX4_remove_66 : decode cX4_remove 66 = .ok (.aload_n 0, 1) := by decide +kernel
theorem dX4_remove_67 : decode cX4_remove 67 = .ok (.getfield 29, 3) := by decide +kernel
theorem dX4_remove_70 : decode cX4_remove 70 = .ok (.iload 6, 2) := by decide +kernel
theorem dX4_remove_72 : decode cX4_remove 72 = .ok (.aaload, 1) := by decide +kernel
theorem dX4_remove_73 : decode cX4_remove 73 = .ok (.iload 6, 2) := by decide +kernel
theorem dX4_remove_75 : decode cX4_remove 75 = .ok (.iload_n 1, 1) := by decide +kernel
theorem dX4_remove_76 : decode cX4_remove 76 = .ok (.iload_n 2, 1) := by decide +kernel
theorem dX4_remove_77 : decode cX4_remove 77 = .ok (.iload_n 3, 1) := by decide +kernel
theorem dX4_remove_78 : decode cX4_remove 78 = .ok (.invokestatic 82, 3) := by decide +kernel
theorem dX4_remove_81 : decode cX4_remove 81 = .ok (.invokevirtual 91, 3) := by decide +kernel
theorem dX4_remove_84 : decode cX4_remove 84 = .ok (.iinc 6 1, 3) := by decide +kernel
theorem dX4_remove_87 : decode cX4_remove 87 = .ok (.goto (-28), 3) := by decide +kernel
theorem dX4_remove_90 : decode cX4_remove 90 = .ok (.iconst 1, 1) := by decide +kernel
theorem dX4_remove_91 : decode cX4_remove 91 = .ok (.ireturn, 1) := by decide +kernel
theorem dX4_range_0 : decode cX4_range 0 = .ok (.iload_n 1, 1) := by decide +kernel
theorem dX4_range_1 : decode cX4_range 1 = .ok (.iload_n 2, 1) := by decide +kernel
theorem dX4_range_2 : decode cX4_range 2 = .ok (.iload_n 3, 1) := by decide +kernel
theorem dX4_range_3 : decode cX4_range 3 = .ok (.invokestatic 94, 3) := by decide +kernel
theorem dX4_range_6 : decode cX4_range 6 = .ok (.ifCond .eq 11, 3) := by decide +kernel
theorem dX4_range_9 : decode cX4_range 9 = .ok (.iload 4, 2) := by decide +kernel
theorem dX4_range_11 : decode cX4_range 11 = .ok (.invokestatic 97, 3) := by decide +kernel
theorem dX4_range_14 : decode cX4_range 14 = .ok (.ifCond .ne 6, 3) := by decide +kernel
theorem dX4_range_17 : decode cX4_range 17 = .ok (.bipush (-2), 2) := by decide +kernel
theorem dX4_range_19 : decode cX4_range 19 = .ok (.ireturn, 1) := by decide +kernel
theorem dX4_range_20 : decode cX4_range 20 = .ok (.iload 4, 2) := by decide +kernel
theorem dX4_range_22 : decode cX4_range 22 = .ok (.aload_n 0, 1) := by decide +kernel
theorem dX4_range_23 : decode cX4_range 23 = .ok (.getfield 23, 3) := by decide +kernel
theorem dX4_range_26 : decode cX4_range 26 = .ok (.getfield 101, 3) := by decide +kernel
theorem dX4_range_29 : decode cX4_range 29 = .ok (.if_icmp .lt 11, 3) := by decide +kernel
theorem dX4_range_32 : decode cX4_range 32 = .ok (.iload_n 2, 1) := by decide +kernel
theorem dX4_range_33 : decode cX4_range 33 = .ok (.iload_n 3, 1) := by decide +kernel
theorem dX4_range_34 : decode cX4_range 34 = .ok (.invokestatic 104, 3) := by decide +kernel
theorem dX4_range_37 : decode cX4_range 37 = .ok (.ifCond .eq 6, 3) := by decide +kernel
theorem dX4_range_40 : decode cX4_range 40 = .ok (.bipush (-3), 2) := by decide +kernel
theorem dX4_range_42 : decode cX4_range 42 = .ok (.ireturn, 1) := by decide +kernel
theorem dX4_range_43 : decode cX4_range 43 = .ok (.aload_n 0, 1) := by decide +kernel
theorem dX4_range_44 : decode cX4_range 44 = .ok (.getfield 44, 3) := by decide +kernel
theorem dX4_range_47 : decode cX4_range 47 = .ok (.iload_n 1, 1) := by decide +kernel
theorem dX4_range_48 : decode cX4_range 48 = .ok (.iload_n 2, 1) := by decide +kernel
theorem dX4_range_49 : decode cX4_range 49 = .ok (.iload_n 3, 1) := by decide +kernel
theorem dX4_range_50 : decode cX4_range 50 = .ok (.invokevirtual 108, 3) := by decide +kernel
theorem dX4_range_53 : decode cX4_range 53 = .ok (.aload_n 0, 1) := by decide +kernel
theorem dX4_range_54 : decode cX4_range 54 = .ok (.getfield 37, 3) := by decide +kernel
theorem dX4_range_57 : decode cX4_range 57 = .ok (.invokevirtual 112, 3) := by decide +kernel
theorem dX4_range_60 : decode cX4_range 60 = .ok (.iconst 0, 1) := by decide +kernel
theorem dX4_range_61 : decode cX4_range 61 = .ok (.istore 5, 2) := by decide +kernel
theorem dX4_range_63 : decode cX4_range 63 = .ok (.iload 5, 2) := by decide +kernel
theorem dX4_range_65 : decode cX4_range 65 = .ok (.aload_n 0, 1) := by decide +kernel
theorem dX4_range_66 : decode cX4_range 66 = .ok (.getfield 23, 3) := by decide +kernel
theorem dX4_range_69 : decode cX4_range 69 = .ok (.getfield 115, 3) := by decide +kernel
theorem dX4_range_72 : decode cX4_range 72 = .ok (.if_icmp .ge 56, 3) := by decide +kernel
theorem dX4_range_75 : decode cX4_range 75 = .ok (.aload_n 0, 1) := by decide +kernel
theorem dX4_range_76 : decode cX4_range 76 = .ok (.getfield 23, 3) := by decide +kernel
theorem dX4_range_79 : decode cX4_range 79 = .ok (.iload 5, 2) := by decide +kernel
theorem dX4_range_81 : decode cX4_range 81 = .ok (.iload 4, 2) := by decide +kernel
theorem dX4_range_83 : decode cX4_range 83 = .ok (.invokevirtual 118, 3) := by decide +kernel
theorem dX4_range_86 : decode cX4_range 86 = .ok (.ifCond .eq 36, 3) := by decide +kernel
theorem dX4_range_89 : decode cX4_range 89 = .ok (.aload_n 0, 1) := by decide +kernel
theorem dX4_range_90 : decode cX4_range 90 = .ok (.getfield 44, 3) := by decide +kernel
theorem dX4_range_93 : decode cX4_range 93 = .ok (.aload_n 0, 1) := by decide +kernel
theorem dX4_range_94 : decode cX4_range 94 = .ok (.getfield 23, 3) := by decide +kernel
theorem dX4_range_97 : decode cX4_range 97 = .ok (.iload 5, 2) := by decide +kernel
theorem dX4_range_99 : decode cX4_range 99 = .ok (.invokevirtual 121, 3) := by decide +kernel
theorem dX4_range_102 : decode cX4_range 102 = .ok (.ifCond .eq 20, 3) := by decide +kernel
theorem dX4_range_105 : decode cX4_range 105 = .ok (.aload_n 0, 1) := by decide +kernel
theorem dX4_range_106 : decode cX4_range 106 = .ok (.getfield 37, 3) := by decide +kernel
theorem dX4_range_109 : decode cX4_range 109 = .ok (.aload_n 0, 1) := by decide +kernel
theorem dX4_range_110 : decode cX4_range 110 = .ok (.getfield 23, 3) := by decide +kernel
theorem dX4_range_113 : decode cX4_range 113 = .ok (.iload_n 1, 1) := by decide +kernel
theorem dX4_range_114 : decode cX4_range 114 = .ok (.iload 5, 2) := by decide +kernel
theorem dX4_range_116 : decode cX4_range 116 = .ok (.invokevirtual 125, 3) := by decide +kernel
theorem dX4_range_119 : decode cX4_range 119 = .ok (.invokevirtual 128, 3) := by decide +kernel
theorem dX4_range_122 : decode cX4_range 122 = .ok (.iinc 5 1, 3) := by decide +kernel
theorem dX4_range_125 : decode cX4_range 125 = .ok (.goto (-62), 3) := by decide +kernel
theorem dX4_range_128 : decode cX4_range 128 = .ok (.aload_n 0, 1) := by decide +kernel
theorem dX4_range_129 : decode cX4_range 129 = .ok (.getfield 37, 3) := by decide +kernel
theorem dX4_range_132 : decode cX4_range 132 = .ok (.getfield 129, 3) := by decide +kernel
theorem dX4_range_135 : decode cX4_range 135 = .ok (.ireturn, 1) := by decide +kernel
theorem dX4_at_0 : decode cX4_at 0 = .ok (.iload_n 2, 1) := by decide +kernel
theorem dX4_at_1 : decode cX4_at 1 = .ok (.ifCond .lt 8, 3) := by decide +kernel
theorem dX4_at_4 : decode cX4_at 4 = .ok (.iload_n 2, 1) := by decide +kernel
theorem dX4_at_5 : decode cX4_at 5 = .ok (.iconst 2, 1) := by decide +kernel
theorem dX4_at_6 : decode cX4_at 6 = .ok (.if_icmp .le 6, 3) := by decide +kernel
theorem dX4_at_9 : decode cX4_at 9 = .ok (.bipush (-2), 2) := by decide +kernel
theorem dX4_at_11 : decode cX4_at 11 = .ok (.ireturn, 1) := by decide +kernel
theorem dX4_at_12 : decode cX4_at 12 = .ok (.aload_n 0, 1) := by decide +kernel
theorem dX4_at_13 : decode cX4_at 13 = .ok (.getfield 37, 3) := by decide +kernel
theorem dX4_at_16 : decode cX4_at 16 = .ok (.iload_n 1, 1) := by decide +kernel
theorem dX4_at_17 : decode cX4_at 17 = .ok (.invokevirtual 130, 3) := by decide +kernel
theorem dX4_at_20 : decode cX4_at 20 = .ok (.istore_n 3, 1) := by decide +kernel
theorem dX4_at_21 : decode cX4_at 21 = .ok (.iload_n 3, 1) := by decide +kernel
theorem dX4_at_22 : decode cX4_at 22 = .ok (.iconst (-1), 1) := by decide +kernel
theorem dX4_at_23 : decode cX4_at 23 = .ok (.if_icmp .ne 7, 3) := by decide +kernel
theorem dX4_at_26 : decode cX4_at 26 = .ok (.iconst (-1), 1) := by decide +kernel
theorem dX4_at_27 : decode cX4_at 27 = .ok (.goto 22, 3) := by decide +kernel
theorem dX4_at_30 : decode cX4_at 30 = .ok (.iload_n 3, 1) := by decide +kernel
theorem dX4_at_31 : decode cX4_at 31 = .ok (.getstatic 134, 3) := by decide +kernel
theorem dX4_at_34 : decode cX4_at 34 = .ok (.aload_n 0, 1) := by decide +kernel
theorem dX4_at_35 : decode cX4_at 35 = .ok (.getfield 44, 3) := by decide +kernel
theorem dX4_at_38 : decode cX4_at 38 = .ok (.getfield 137, 3) := by decide +kernel
theorem dX4_at_41 : decode cX4_at 41 = .ok (.iconst 3, 1) := by decide +kernel
theorem dX4_at_42 : decode cX4_at 42 = .ok (.imul, 1) := by decide +kernel
theorem dX4_at_43 : decode cX4_at 43 = .ok (.iload_n 2, 1) := by decide +kernel
theorem dX4_at_44 : decode cX4_at 44 = .ok (.iadd, 1) := by decide +kernel
theorem dX4_at_45 : decode cX4_at 45 = .ok (.iaload, 1) := by decide +kernel
theorem dX4_at_46 : decode cX4_at 46 = .ok (.invokestatic 140, 3) := by decide +kernel
theorem dX4_at_49 : decode cX4_at 49 = .ok (.ireturn, 1) := by decide +kernel
theorem dX4_seek_0 : decode cX4_seek 0 = .ok (.iload_n 1, 1) := by decide +kernel
theorem dX4_seek_1 : decode cX4_seek 1 = .ok (.sipush 1000, 3) := by decide +kernel
theorem dX4_seek_4 : decode cX4_seek 4 = .ok (.if_icmp .lt 11, 3) := by decide +kernel
theorem dX4_seek_7 : decode cX4_seek 7 = .ok (.aload_n 0, 1) := by decide +kernel
theorem dX4_seek_8 : decode cX4_seek 8 = .ok (.getfield 37, 3) := by decide +kernel
theorem dX4_seek_11 : decode cX4_seek 11 = .ok (.getfield 129, 3) := by decide +kernel
theorem dX4_seek_14 : decode cX4_seek 14 = .ok (.ireturn, 1) := by decide +kernel
theorem dX4_seek_15 : decode cX4_seek 15 = .ok (.aload_n 0, 1) := by decide +kernel
theorem dX4_seek_16 : decode cX4_seek 16 = .ok (.getfield 37, 3) := by decide +kernel
theorem dX4_seek_19 : decode cX4_seek 19 = .ok (.aload_n 0, 1) := by decide +kernel
theorem dX4_seek_20 : decode cX4_seek 20 = .ok (.getfield 44, 3) := by decide +kernel
theorem dX4_seek_23 : decode cX4_seek 23 = .ok (.iload_n 1, 1) := by decide +kernel
theorem dX4_seek_24 : decode cX4_seek 24 = .ok (.iconst 0, 1) := by decide +kernel
theorem dX4_seek_25 : decode cX4_seek 25 = .ok (.invokestatic 15, 3) := by decide +kernel
theorem dX4_seek_28 : decode cX4_seek 28 = .ok (.invokevirtual 143, 3) := by decide +kernel
theorem dX4_seek_31 : decode cX4_seek 31 = .ok (.invokevirtual 146, 3) := by decide +kernel
theorem dX4_seek_34 : decode cX4_seek 34 = .ok (.ireturn, 1) := by decide +kernel
theorem dX4_seconds_0 : decode cX4_seconds 0 = .ok (.aload_n 0, 1) := by decide +kernel
theorem dX4_seconds_1 : decode cX4_seconds 1 = .ok (.iload_n 1, 1) := by decide +kernel
theorem dX4_seconds_2 : decode cX4_seconds 2 = .ok (.iload_n 2, 1) := by decide +kernel
theorem dX4_seconds_3 : decode cX4_seconds 3 = .ok (.iload_n 3, 1) := by decide +kernel
theorem dX4_seconds_4 : decode cX4_seconds 4 = .ok (.invokevirtual 149, 3) := by decide +kernel
theorem dX4_seconds_7 : decode cX4_seconds 7 = .ok (.istore 4, 2) := by decide +kernel
theorem dX4_seconds_9 : decode cX4_seconds 9 = .ok (.iload 4, 2) := by decide +kernel
theorem dX4_seconds_11 : decode cX4_seconds 11 = .ok (.ifCond .eq 6, 3) := by decide +kernel
theorem dX4_seconds_14 : decode cX4_seconds 14 = .ok (.iload 4, 2) := by decide +kernel
theorem dX4_seconds_16 : decode cX4_seconds 16 = .ok (.ireturn, 1) := by decide +kernel
theorem dX4_seconds_17 : decode cX4_seconds 17 = .ok (.aload_n 0, 1) := by decide +kernel
theorem dX4_seconds_18 : decode cX4_seconds 18 = .ok (.getfield 48, 3) := by decide +kernel
theorem dX4_seconds_21 : decode cX4_seconds 21 = .ok (.iload_n 1, 1) := by decide +kernel
theorem dX4_seconds_22 : decode cX4_seconds 22 = .ok (.iload_n 2, 1) := by decide +kernel
theorem dX4_seconds_23 : decode cX4_seconds 23 = .ok (.iconst (-1), 1) := by decide +kernel
theorem dX4_seconds_24 : decode cX4_seconds 24 = .ok (.invokevirtual 108, 3) := by decide +kernel
theorem dX4_seconds_27 : decode cX4_seconds 27 = .ok (.aload_n 0, 1) := by decide +kernel
theorem dX4_seconds_28 : decode cX4_seconds 28 = .ok (.getfield 62, 3) := by decide +kernel
theorem dX4_seconds_31 : decode cX4_seconds 31 = .ok (.iconst 0, 1) := by decide +kernel
theorem dX4_seconds_32 : decode cX4_seconds 32 = .ok (.invokestatic 153, 3) := by decide +kernel
theorem dX4_seconds_35 : decode cX4_seconds 35 = .ok (.aload_n 0, 1) := by decide +kernel
theorem dX4_seconds_36 : decode cX4_seconds 36 = .ok (.aload_n 0, 1) := by decide +kernel
theorem dX4_seconds_37 : decode cX4_seconds 37 = .ok (.getfield 48, 3) := by decide +kernel
theorem dX4_seconds_40 : decode cX4_seconds 40 = .ok (.iconst 0, 1) := by decide +kernel
theorem dX4_seconds_41 : decode cX4_seconds 41 = .ok (.iload_n 3, 1) := by decide +kernel
theorem dX4_seconds_42 : decode cX4_seconds 42 = .ok (.invokevirtual 159, 3) := by decide +kernel
theorem dX4_seconds_45 : decode cX4_seconds 45 = .ok (.aload_n 0, 1) := by decide +kernel
theorem dX4_seconds_46 : decode cX4_seconds 46 = .ok (.iconst 1, 1) := by decide +kernel
theorem dX4_seconds_47 : decode cX4_seconds 47 = .ok (.invokevirtual 163, 3) := by decide +kernel
theorem dX4_seconds_50 : decode cX4_seconds 50 = .ok (.ireturn, 1) := by decide +kernel
theorem dX4_sum_0 : decode cX4_sum 0 = .ok (.aload_n 0, 1) := by decide +kernel
theorem dX4_sum_1 : decode cX4_sum 1 = .ok (.iload_n 1, 1) := by decide +kernel
theorem dX4_sum_2 : decode cX4_sum 2 = .ok (.iload_n 2, 1) := by decide +kernel
theorem dX4_sum_3 : decode cX4_sum 3 = .ok (.iload_n 3, 1) := by decide +kernel
theorem dX4_sum_4 : decode cX4_sum 4 = .ok (.invokevirtual 149, 3) := by decide +kernel
theorem dX4_sum_7 : decode cX4_sum 7 = .ok (.istore 4, 2) := by decide +kernel
theorem dX4_sum_9 : decode cX4_sum 9 = .ok (.iload 4, 2) := by decide +kernel
theorem dX4_sum_11 : decode cX4_sum 11 = .ok (.ifCond .eq 7, 3) := by decide +kernel
theorem dX4_sum_14 : decode cX4_sum 14 = .ok (.iload 4, 2) := by decide +kernel
theorem dX4_sum_16 : decode cX4_sum 16 = .ok (.i2l, 1) := by decide +kernel
theorem dX4_sum_17 : decode cX4_sum 17 = .ok (.lreturn, 1) := by decide +kernel
theorem dX4_sum_18 : decode cX4_sum 18 = .ok (.aload_n 0, 1) := by decide +kernel
theorem dX4_sum_19 : decode cX4_sum 19 = .ok (.getfield 48, 3) := by decide +kernel
theorem dX4_sum_22 : decode cX4_sum 22 = .ok (.iload_n 1, 1) := by decide +kernel
theorem dX4_sum_23 : decode cX4_sum 23 = .ok (.iload_n 2, 1) := by decide +kernel
theorem dX4_sum_24 : decode cX4_sum 24 = .ok (.iconst (-1), 1) := by decide +kernel
theorem dX4_sum_25 : decode cX4_sum 25 = .ok (.invokevirtual 108, 3) := by decide +kernel
theorem dX4_sum_28 : decode cX4_sum 28 = .ok (.lconst 0, 1) := by decide +kernel
theorem dX4_sum_29 : decode cX4_sum 29 = .ok (.lstore 5, 2) := by decide +kernel
theorem dX4_sum_31 : decode cX4_sum 31 = .ok (.iconst 0, 1) := by decide +kernel
theorem dX4_sum_32 : decode cX4_sum 32 = .ok (.istore 7, 2) := by decide +kernel
theorem dX4_sum_34 : decode cX4_sum 34 = .ok (.iload 7, 2) := by decide +kernel
theorem dX4_sum_36 : decode cX4_sum 36 = .ok (.aload_n 0, 1) := by decide +kernel
theorem dX4_sum_37 : decode cX4_sum 37 = .ok (.getfield 23, 3) := by decide +kernel
theorem dX4_sum_40 : decode cX4_sum 40 = .ok (.getfield 115, 3) := by decide +kernel
theorem dX4_sum_43 : decode cX4_sum 43 = .ok (.if_icmp .ge 55, 3) := by decide +kernel
theorem dX4_sum_46 : decode cX4_sum 46 = .ok (.aload_n 0, 1) := by decide +kernel
theorem dX4_sum_47 : decode cX4_sum 47 = .ok (.getfield 23, 3) := by decide +kernel
theorem dX4_sum_50 : decode cX4_sum 50 = .ok (.iload 7, 2) := by decide +kernel
theorem dX4_sum_52 : decode cX4_sum 52 = .ok (.iload_n 3, 1) := by decide +kernel
theorem dX4_sum_53 : decode cX4_sum 53 = .ok (.invokevirtual 118, 3) := by decide +kernel
theorem dX4_sum_56 : decode cX4_sum 56 = .ok (.ifCond .eq 36, 3) := by decide +kernel
theorem dX4_sum_59 : decode cX4_sum 59 = .ok (.aload_n 0, 1) := by decide +kernel
theorem dX4_sum_60 : decode cX4_sum 60 = .ok (.getfield 48, 3) := by decide +kernel
theorem dX4_sum_63 : decode cX4_sum 63 = .ok (.aload_n 0, 1) := by decide +kernel
theorem dX4_sum_64 : decode cX4_sum 64 = .ok (.getfield 23, 3) := by decide +kernel
theorem dX4_sum_67 : decode cX4_sum 67 = .ok (.iload 7, 2) := by decide +kernel
theorem dX4_sum_69 : decode cX4_sum 69 = .ok (.invokevirtual 121, 3) := by decide +kernel
theorem dX4_sum_72 : decode cX4_sum 72 = .ok (.ifCond .eq 20, 3) := by decide +kernel
theorem dX4_sum_75 : decode cX4_sum 75 = .ok (.lload 5, 2) := by decide +kernel
theorem dX4_sum_77 : decode cX4_sum 77 = .ok (.aload_n 0, 1) := by decide +kernel
theorem dX4_sum_78 : decode cX4_sum 78 = .ok (.getfield 23, 3) := by decide +kernel
theorem dX4_sum_81 : decode cX4_sum 81 = .ok (.iload_n 1, 1) := by decide +kernel
theorem dX4_sum_82 : decode cX4_sum 82 = .ok (.iconst 2, 1) := by decide +kernel
theorem dX4_sum_83 : decode cX4_sum 83 = .ok (.iload 7, 2) := by decide +kernel
theorem dX4_sum_85 : decode cX4_sum 85 = .ok (.invokevirtual 166, 3) := by decide +kernel
theorem dX4_sum_88 : decode cX4_sum 88 = .ok (.i2l, 1) := by decide +kernel
theorem dX4_sum_89 : decode cX4_sum 89 = .ok (.ladd, 1) := by decide +kernel
theorem dX4_sum_90 : decode cX4_sum 90 = .ok (.lstore 5, 2) := by decide +kernel
theorem dX4_sum_92 : decode cX4_sum 92 = .ok (.iinc 7 1, 3) := by decide +kernel
theorem dX4_sum_95 : decode cX4_sum 95 = .ok (.goto (-61), 3) := by decide +kernel
theorem dX4_sum_98 : decode cX4_sum 98 = .ok (.lload 5, 2) := by decide +kernel
theorem dX4_sum_100 : decode cX4_sum 100 = .ok (.lreturn, 1) := by decide +kernel
theorem dX4_lead_0 : decode cX4_lead 0 = .ok (.iload_n 1, 1) := by decide +kernel
theorem dX4_lead_1 : decode cX4_lead 1 = .ok (.iload_n 2, 1) := by decide +kernel
theorem dX4_lead_2 : decode cX4_lead 2 = .ok (.iload_n 3, 1) := by decide +kernel
theorem dX4_lead_3 : decode cX4_lead 3 = .ok (.invokestatic 94, 3) := by decide +kernel
theorem dX4_lead_6 : decode cX4_lead 6 = .ok (.ifCond .ne 6, 3) := by decide +kernel
theorem dX4_lead_9 : decode cX4_lead 9 = .ok (.bipush (-2), 2) := by decide +kernel
theorem dX4_lead_11 : decode cX4_lead 11 = .ok (.ireturn, 1) := by decide +kernel
theorem dX4_lead_12 : decode cX4_lead 12 = .ok (.iload_n 2, 1) := by decide +kernel
theorem dX4_lead_13 : decode cX4_lead 13 = .ok (.iload_n 3, 1) := by decide +kernel
theorem dX4_lead_14 : decode cX4_lead 14 = .ok (.invokestatic 104, 3) := by decide +kernel
theorem dX4_lead_17 : decode cX4_lead 17 = .ok (.ifCond .eq 6, 3) := by decide +kernel
theorem dX4_lead_20 : decode cX4_lead 20 = .ok (.bipush (-3), 2) := by decide +kernel
theorem dX4_lead_22 : decode cX4_lead 22 = .ok (.ireturn, 1) := by decide +kernel
theorem dX4_lead_23 : decode cX4_lead 23 = .ok (.aload_n 0, 1) := by decide +kernel
theorem dX4_lead_24 : decode cX4_lead 24 = .ok (.getfield 55, 3) := by decide +kernel
theorem dX4_lead_27 : decode cX4_lead 27 = .ok (.iconst 4, 1) := by decide +kernel
theorem dX4_lead_28 : decode cX4_lead 28 = .ok (.if_icmp .lt 6, 3) := by decide +kernel
theorem dX4_lead_31 : decode cX4_lead 31 = .ok (.bipush (-4), 2) := by decide +kernel
theorem dX4_lead_33 : decode cX4_lead 33 = .ok (.ireturn, 1) := by decide +kernel
theorem dX4_lead_34 : decode cX4_lead 34 = .ok (.aload_n 0, 1) := by decide +kernel
theorem dX4_lead_35 : decode cX4_lead 35 = .ok (.getfield 51, 3) := by decide +kernel
theorem dX4_lead_38 : decode cX4_lead 38 = .ok (.aload_n 0, 1) := by decide +kernel
theorem dX4_lead_39 : decode cX4_lead 39 = .ok (.getfield 55, 3) := by decide +kernel
theorem dX4_lead_42 : decode cX4_lead 42 = .ok (.aaload, 1) := by decide +kernel
theorem dX4_lead_43 : decode cX4_lead 43 = .ok (.iload_n 1, 1) := by decide +kernel
theorem dX4_lead_44 : decode cX4_lead 44 = .ok (.iload_n 2, 1) := by decide +kernel
theorem dX4_lead_45 : decode cX4_lead 45 = .ok (.iload_n 3, 1) := by decide +kernel
theorem dX4_lead_46 : decode cX4_lead 46 = .ok (.invokevirtual 108, 3) := by decide +kernel
theorem dX4_lead_49 : decode cX4_lead 49 = .ok (.aload_n 0, 1) := by decide +kernel
theorem dX4_lead_50 : decode cX4_lead 50 = .ok (.dup, 1) := by decide +kernel
theorem dX4_lead_51 : decode cX4_lead 51 = .ok (.getfield 55, 3) := by decide +kernel
theorem dX4_lead_54 : decode cX4_lead 54 = .ok (.iconst 1, 1) := by decide +kernel
theorem dX4_lead_55 : decode cX4_lead 55 = .ok (.iadd, 1) := by decide +kernel
theorem dX4_lead_56 : decode cX4_lead 56 = .ok (.putfield 55, 3) := by decide +kernel
theorem dX4_lead_59 : decode cX4_lead 59 = .ok (.aload_n 0, 1) := by decide +kernel
theorem dX4_lead_60 : decode cX4_lead 60 = .ok (.getfield 55, 3) := by decide +kernel
theorem dX4_lead_63 : decode cX4_lead 63 = .ok (.ireturn, 1) := by decide +kernel
theorem dX4_leap_0 : decode cX4_leap 0 = .ok (.iload_n 1, 1) := by decide +kernel
theorem dX4_leap_1 : decode cX4_leap 1 = .ok (.invokestatic 97, 3) := by decide +kernel
theorem dX4_leap_4 : decode cX4_leap 4 = .ok (.ifCond .ne 6, 3) := by decide +kernel
theorem dX4_leap_7 : decode cX4_leap 7 = .ok (.bipush (-2), 2) := by decide +kernel
theorem dX4_leap_9 : decode cX4_leap 9 = .ok (.ireturn, 1) := by decide +kernel
theorem dX4_leap_10 : decode cX4_leap 10 = .ok (.iload_n 1, 1) := by decide +kernel
theorem dX4_leap_11 : decode cX4_leap 11 = .ok (.aload_n 0, 1) := by decide +kernel
theorem dX4_leap_12 : decode cX4_leap 12 = .ok (.getfield 23, 3) := by decide +kernel
theorem dX4_leap_15 : decode cX4_leap 15 = .ok (.getfield 101, 3) := by decide +kernel
theorem dX4_leap_18 : decode cX4_leap 18 = .ok (.if_icmp .ge 6, 3) := by decide +kernel
theorem dX4_leap_21 : decode cX4_leap 21 = .ok (.bipush (-3), 2) := by decide +kernel
theorem dX4_leap_23 : decode cX4_leap 23 = .ok (.ireturn, 1) := by decide +kernel
theorem dX4_leap_24 : decode cX4_leap 24 = .ok (.aload_n 0, 1) := by decide +kernel
theorem dX4_leap_25 : decode cX4_leap 25 = .ok (.getfield 59, 3) := by decide +kernel
theorem dX4_leap_28 : decode cX4_leap 28 = .ok (.invokevirtual 112, 3) := by decide +kernel
theorem dX4_leap_31 : decode cX4_leap 31 = .ok (.aload_n 0, 1) := by decide +kernel
theorem dX4_leap_32 : decode cX4_leap 32 = .ok (.getfield 55, 3) := by decide +kernel
theorem dX4_leap_35 : decode cX4_leap 35 = .ok (.ifCond .ne 5, 3) := by decide +kernel
theorem dX4_leap_38 : decode cX4_leap 38 = .ok (.iconst 0, 1) := by decide +kernel
theorem dX4_leap_39 : decode cX4_leap 39 = .ok (.ireturn, 1) := by decide +kernel
theorem dX4_leap_40 : decode cX4_leap 40 = .ok (.aload_n 0, 1) := by decide +kernel
theorem dX4_leap_41 : decode cX4_leap 41 = .ok (.getfield 62, 3) := by decide +kernel
theorem dX4_leap_44 : decode cX4_leap 44 = .ok (.iconst 0, 1) := by decide +kernel
theorem dX4_leap_45 : decode cX4_leap 45 = .ok (.invokestatic 153, 3) := by decide +kernel
theorem dX4_leap_48 : decode cX4_leap 48 = .ok (.iconst 0, 1) := by decide +kernel
theorem dX4_leap_49 : decode cX4_leap 49 = .ok (.istore_n 2, 1) := by decide +kernel
theorem dX4_leap_50 : decode cX4_leap 50 = .ok (.iload_n 2, 1) := by decide +kernel
theorem dX4_leap_51 : decode cX4_leap 51 = .ok (.aload_n 0, 1) := by decide +kernel
theorem dX4_leap_52 : decode cX4_leap 52 = .ok (.getfield 55, 3) := by decide +kernel
theorem dX4_leap_55 : decode cX4_leap 55 = .ok (.if_icmp .ge 21, 3) := by decide +kernel
theorem dX4_leap_58 : decode cX4_leap 58 = .ok (.aload_n 0, 1) := by decide +kernel
theorem dX4_leap_59 : decode cX4_leap 59 = .ok (.aload_n 0, 1) := by decide +kernel
theorem dX4_leap_60 : decode cX4_leap 60 = .ok (.getfield 51, 3) := by decide +kernel
theorem dX4_leap_63 : decode cX4_leap 63 = .ok (.iload_n 2, 1) := by decide +kernel
theorem dX4_leap_64 : decode cX4_leap 64 = .ok (.aaload, 1) := by decide +kernel
theorem dX4_leap_65 : decode cX4_leap 65 = .ok (.iload_n 2, 1) := by decide +kernel
theorem dX4_leap_66 : decode cX4_leap 66 = .ok (.iload_n 1, 1) := by decide +kernel
theorem dX4_leap_67 : decode cX4_leap 67 = .ok (.invokevirtual 159, 3) := by decide +kernel
theorem dX4_leap_70 : decode cX4_leap 70 = .ok (.iinc 2 1, 3) := by decide +kernel
theorem dX4_leap_73 : decode cX4_leap 73 = .ok (.goto (-23), 3) := by decide +kernel
theorem dX4_leap_76 : decode cX4_leap 76 = .ok (.iconst 0, 1) := by decide +kernel
theorem dX4_leap_77 : decode cX4_leap 77 = .ok (.istore_n 2, 1) := by decide +kernel
theorem dX4_leap_78 : decode cX4_leap 78 = .ok (.iload_n 2, 1) := by decide +kernel
theorem dX4_leap_79 : decode cX4_leap 79 = .ok (.sipush 1000, 3) := by decide +kernel
theorem dX4_leap_82 : decode cX4_leap 82 = .ok (.if_icmp .ge 30, 3) := by decide +kernel
theorem dX4_leap_85 : decode cX4_leap 85 = .ok (.aload_n 0, 1) := by decide +kernel
theorem dX4_leap_86 : decode cX4_leap 86 = .ok (.getfield 62, 3) := by decide +kernel
theorem dX4_leap_89 : decode cX4_leap 89 = .ok (.iload_n 2, 1) := by decide +kernel
theorem dX4_leap_90 : decode cX4_leap 90 = .ok (.iaload, 1) := by decide +kernel
theorem dX4_leap_91 : decode cX4_leap 91 = .ok (.aload_n 0, 1) := by decide +kernel
theorem dX4_leap_92 : decode cX4_leap 92 = .ok (.getfield 55, 3) := by decide +kernel
theorem dX4_leap_95 : decode cX4_leap 95 = .ok (.if_icmp .ne 11, 3) := by decide +kernel
theorem dX4_leap_98 : decode cX4_leap 98 = .ok (.aload_n 0, 1) := by decide +kernel
theorem dX4_leap_99 : decode cX4_leap 99 = .ok (.getfield 59, 3) := by decide +kernel
theorem dX4_leap_102 : decode cX4_leap 102 = .ok (.iload_n 2, 1) := by decide +kernel
theorem dX4_leap_103 : decode cX4_leap 103 = .ok (.invokevirtual 128, 3) := by decide +kernel
theorem dX4_leap_106 : decode cX4_leap 106 = .ok (.iinc 2 1, 3) := by decide +kernel
theorem dX4_leap_109 : decode cX4_leap 109 = .ok (.goto (-31), 3) := by decide +kernel
theorem dX4_leap_112 : decode cX4_leap 112 = .ok (.aload_n 0, 1) := by decide +kernel
theorem dX4_leap_113 : decode cX4_leap 113 = .ok (.iconst 0, 1) := by decide +kernel
theorem dX4_leap_114 : decode cX4_leap 114 = .ok (.putfield 55, 3) := by decide +kernel
theorem dX4_leap_117 : decode cX4_leap 117 = .ok (.aload_n 0, 1) := by decide +kernel
theorem dX4_leap_118 : decode cX4_leap 118 = .ok (.getfield 59, 3) := by decide +kernel
theorem dX4_leap_121 : decode cX4_leap 121 = .ok (.getfield 129, 3) := by decide +kernel
theorem dX4_leap_124 : decode cX4_leap 124 = .ok (.ireturn, 1) := by decide +kernel
theorem dX4_found_0 : decode cX4_found 0 = .ok (.aload_n 0, 1) := by decide +kernel
theorem dX4_found_1 : decode cX4_found 1 = .ok (.getfield 59, 3) := by decide +kernel
theorem dX4_found_4 : decode cX4_found 4 = .ok (.iload_n 1, 1) := by decide +kernel
theorem dX4_found_5 : decode cX4_found 5 = .ok (.invokevirtual 130, 3) := by decide +kernel
theorem dX4_found_8 : decode cX4_found 8 = .ok (.ireturn, 1) := by decide +kernel
theorem dX4_cut_0 : decode cX4_cut 0 = .ok (.iload_n 1, 1) := by decide +kernel
theorem dX4_cut_1 : decode cX4_cut 1 = .ok (.invokestatic 97, 3) := by decide +kernel
theorem dX4_cut_4 : decode cX4_cut 4 = .ok (.ifCond .ne 6, 3) := by decide +kernel
theorem dX4_cut_7 : decode cX4_cut 7 = .ok (.bipush (-2), 2) := by decide +kernel
theorem dX4_cut_9 : decode cX4_cut 9 = .ok (.ireturn, 1) := by decide +kernel
theorem dX4_cut_10 : decode cX4_cut 10 = .ok (.iload_n 1, 1) := by decide +kernel
theorem dX4_cut_11 : decode cX4_cut 11 = .ok (.aload_n 0, 1) := by decide +kernel
theorem dX4_cut_12 : decode cX4_cut 12 = .ok (.getfield 23, 3) := by decide +kernel
theorem dX4_cut_15 : decode cX4_cut 15 = .ok (.getfield 101, 3) := by decide +kernel
theorem dX4_cut_18 : decode cX4_cut 18 = .ok (.if_icmp .ge 6, 3) := by decide +kernel
theorem dX4_cut_21 : decode cX4_cut 21 = .ok (.bipush (-3), 2) := by decide +kernel
theorem dX4_cut_23 : decode cX4_cut 23 = .ok (.ireturn, 1) := by decide +kernel
theorem dX4_cut_24 : decode cX4_cut 24 = .ok (.aload_n 0, 1) := by decide +kernel
theorem dX4_cut_25 : decode cX4_cut 25 = .ok (.getfield 23, 3) := by decide +kernel
theorem dX4_cut_28 : decode cX4_cut 28 = .ok (.iload_n 1, 1) := by decide +kernel
theorem dX4_cut_29 : decode cX4_cut 29 = .ok (.invokevirtual 169, 3) := by decide +kernel
theorem dX4_cut_32 : decode cX4_cut 32 = .ok (.ireturn, 1) := by decide +kernel
theorem dX4_pages_0 : decode cX4_pages 0 = .ok (.iload_n 1, 1) := by decide +kernel
theorem dX4_pages_1 : decode cX4_pages 1 = .ok (.invokestatic 172, 3) := by decide +kernel
theorem dX4_pages_4 : decode cX4_pages 4 = .ok (.ifCond .eq 15, 3) := by decide +kernel
theorem dX4_pages_7 : decode cX4_pages 7 = .ok (.aload_n 0, 1) := by decide +kernel
theorem dX4_pages_8 : decode cX4_pages 8 = .ok (.getfield 29, 3) := by decide +kernel
theorem dX4_pages_11 : decode cX4_pages 11 = .ok (.iload_n 1, 1) := by decide +kernel
theorem dX4_pages_12 : decode cX4_pages 12 = .ok (.aaload, 1) := by decide +kernel
theorem dX4_pages_13 : decode cX4_pages 13 = .ok (.getfield 175, 3) := by decide +kernel
theorem dX4_pages_16 : decode cX4_pages 16 = .ok (.goto 5, 3) := by decide +kernel
theorem dX4_pages_19 : decode cX4_pages 19 = .ok (.bipush (-2), 2) := by decide +kernel
theorem dX4_pages_21 : decode cX4_pages 21 = .ok (.ireturn, 1) := by decide +kernel
theorem dX4_page_0 : decode cX4_page 0 = .ok (.iload_n 1, 1) := by decide +kernel
theorem dX4_page_1 : decode cX4_page 1 = .ok (.invokestatic 172, 3) := by decide +kernel
theorem dX4_page_4 : decode cX4_page 4 = .ok (.ifCond .eq 12, 3) := by decide +kernel
theorem dX4_page_7 : decode cX4_page 7 = .ok (.iload_n 3, 1) := by decide +kernel
theorem dX4_page_8 : decode cX4_page 8 = .ok (.ifCond .lt 8, 3) := by decide +kernel
theorem dX4_page_11 : decode cX4_page 11 = .ok (.iload_n 3, 1) := by decide +kernel
theorem dX4_page_12 : decode cX4_page 12 = .ok (.iconst 3, 1) := by decide +kernel
theorem dX4_page_13 : decode cX4_page 13 = .ok (.if_icmp .le 6, 3) := by decide +kernel
theorem dX4_page_16 : decode cX4_page 16 = .ok (.bipush (-2), 2) := by decide +kernel
theorem dX4_page_18 : decode cX4_page 18 = .ok (.ireturn, 1) := by decide +kernel
theorem dX4_page_19 : decode cX4_page 19 = .ok (.aload_n 0, 1) := by decide +kernel
theorem dX4_page_20 : decode cX4_page 20 = .ok (.getfield 29, 3) := by decide +kernel
theorem dX4_page_23 : decode cX4_page 23 = .ok (.iload_n 1, 1) := by decide +kernel
theorem dX4_page_24 : decode cX4_page 24 = .ok (.aaload, 1) := by decide +kernel
theorem dX4_page_25 : decode cX4_page 25 = .ok (.astore 4, 2) := by decide +kernel
theorem dX4_page_27 : decode cX4_page 27 = .ok (.aload 4, 2) := by decide +kernel
theorem dX4_page_29 : decode cX4_page 29 = .ok (.iload_n 2, 1) := by decide +kernel
theorem dX4_page_30 : decode cX4_page 30 = .ok (.invokevirtual 178, 3) := by decide +kernel
theorem dX4_page_33 : decode cX4_page 33 = .ok (.ifCond .ne 5, 3) := by decide +kernel
theorem dX4_page_36 : decode cX4_page 36 = .ok (.iconst (-1), 1) := by decide +kernel
theorem dX4_page_37 : decode cX4_page 37 = .ok (.ireturn, 1) := by decide +kernel
theorem dX4_page_38 : decode cX4_page 38 = .ok (.iload_n 3, 1) := by decide +kernel
theorem dX4_page_39 : decode cX4_page 39 = .ok (.ifCond .ne 12, 3) := by decide +kernel
theorem dX4_page_42 : decode cX4_page 42 = .ok (.aload 4, 2) := by decide +kernel
theorem dX4_page_44 : decode cX4_page 44 = .ok (.iload_n 2, 1) := by decide +kernel
theorem dX4_page_45 : decode cX4_page 45 = .ok (.invokevirtual 181, 3) := by decide +kernel
theorem dX4_page_48 : decode cX4_page 48 = .ok (.goto 15, 3) := by decide +kernel
theorem dX4_page_51 : decode cX4_page 51 = .ok (.aload 4, 2) := by decide +kernel
theorem dX4_page_53 : decode cX4_page 53 = .ok (.iload_n 2, 1) := by decide +kernel
theorem dX4_page_54 : decode cX4_page 54 = .ok (.invokevirtual 184, 3) := by decide +kernel
theorem dX4_page_57 : decode cX4_page 57 = .ok (.iload_n 3, 1) := by decide +kernel
theorem dX4_page_58 : decode cX4_page 58 = .ok (.iconst 1, 1) := by decide +kernel
theorem dX4_page_59 : decode cX4_page 59 = .ok (.isub, 1) := by decide +kernel
theorem dX4_page_60 : decode cX4_page 60 = .ok (.invokestatic 140, 3) := by decide +kernel
theorem dX4_page_63 : decode cX4_page 63 = .ok (.ireturn, 1) := by decide +kernel
theorem dX4_mark_0 : decode cX4_mark 0 = .ok (.iload_n 1, 1) := by decide +kernel
theorem dX4_mark_1 : decode cX4_mark 1 = .ok (.invokestatic 172, 3) := by decide +kernel
theorem dX4_mark_4 : decode cX4_mark 4 = .ok (.ifCond .eq 16, 3) := by decide +kernel
theorem dX4_mark_7 : decode cX4_mark 7 = .ok (.aload_n 0, 1) := by decide +kernel
theorem dX4_mark_8 : decode cX4_mark 8 = .ok (.getfield 29, 3) := by decide +kernel
theorem dX4_mark_11 : decode cX4_mark 11 = .ok (.iload_n 1, 1) := by decide +kernel
theorem dX4_mark_12 : decode cX4_mark 12 = .ok (.aaload, 1) := by decide +kernel
theorem dX4_mark_13 : decode cX4_mark 13 = .ok (.iload_n 2, 1) := by decide +kernel
theorem dX4_mark_14 : decode cX4_mark 14 = .ok (.invokevirtual 187, 3) := by decide +kernel
theorem dX4_mark_17 : decode cX4_mark 17 = .ok (.goto 4, 3) := by decide +kernel
theorem dX4_mark_20 : decode cX4_mark 20 = .ok (.iconst 0, 1) := by decide +kernel
theorem dX4_mark_21 : decode cX4_mark 21 = .ok (.ireturn, 1) := by decide +kernel
theorem dX4_count_0 : decode cX4_count 0 = .ok (.iload_n 1, 1) := by decide +kernel
theorem dX4_count_1 : decode cX4_count 1 = .ok (.tableswitch 77 0 4 #[35, 48, 56, 61, 69], 35) := by decide +kernel
theorem dX4_count_36 : decode cX4_count 36 = .ok (.aload_n 0, 1) := by decide +kernel
theorem dX4_count_37 : decode cX4_count 37 = .ok (.getfield 29, 3) := by decide +kernel
theorem dX4_count_40 : decode cX4_count 40 = .ok (.iconst 0, 1) := by decide +kernel
theorem dX4_count_41 : decode cX4_count 41 = .ok (.aaload, 1) := by decide +kernel
theorem dX4_count_42 : decode cX4_count 42 = .ok (.getfield 190, 3) := by decide +kernel
theorem dX4_count_45 : decode cX4_count 45 = .ok (.getfield 129, 3) := by decide +kernel
theorem dX4_count_48 : decode cX4_count 48 = .ok (.ireturn, 1) := by decide +kernel
theorem dX4_count_49 : decode cX4_count 49 = .ok (.aload_n 0, 1) := by decide +kernel
theorem dX4_count_50 : decode cX4_count 50 = .ok (.getfield 23, 3) := by decide +kernel
theorem dX4_count_53 : decode cX4_count 53 = .ok (.getfield 115, 3) := by decide +kernel
theorem dX4_count_56 : decode cX4_count 56 = .ok (.ireturn, 1) := by decide +kernel
theorem dX4_count_57 : decode cX4_count 57 = .ok (.aload_n 0, 1) := by decide +kernel
theorem dX4_count_58 : decode cX4_count 58 = .ok (.getfield 55, 3) := by decide +kernel
theorem dX4_count_61 : decode cX4_count 61 = .ok (.ireturn, 1) := by decide +kernel
theorem dX4_count_62 : decode cX4_count 62 = .ok (.aload_n 0, 1) := by decide +kernel
theorem dX4_count_63 : decode cX4_count 63 = .ok (.getfield 23, 3) := by decide +kernel
theorem dX4_count_66 : decode cX4_count 66 = .ok (.getfield 193, 3) := by decide +kernel
theorem dX4_count_69 : decode cX4_count 69 = .ok (.ireturn, 1) := by decide +kernel
theorem dX4_count_70 : decode cX4_count 70 = .ok (.aload_n 0, 1) := by decide +kernel
theorem dX4_count_71 : decode cX4_count 71 = .ok (.getfield 23, 3) := by decide +kernel
theorem dX4_count_74 : decode cX4_count 74 = .ok (.getfield 101, 3) := by decide +kernel
theorem dX4_count_77 : decode cX4_count 77 = .ok (.ireturn, 1) := by decide +kernel
theorem dX4_count_78 : decode cX4_count 78 = .ok (.bipush (-2), 2) := by decide +kernel
theorem dX4_count_80 : decode cX4_count 80 = .ok (.ireturn, 1) := by decide +kernel
theorem dX4_clear_0 : decode cX4_clear 0 = .ok (.aload_n 0, 1) := by decide +kernel
theorem dX4_clear_1 : decode cX4_clear 1 = .ok (.getfield 23, 3) := by decide +kernel
theorem dX4_clear_4 : decode cX4_clear 4 = .ok (.invokevirtual 196, 3) := by decide +kernel
theorem dX4_clear_7 : decode cX4_clear 7 = .ok (.iconst 0, 1) := by decide +kernel
theorem dX4_clear_8 : decode cX4_clear 8 = .ok (.istore_n 1, 1) := by decide +kernel
theorem dX4_clear_9 : decode cX4_clear 9 = .ok (.iload_n 1, 1) := by decide +kernel
theorem dX4_clear_10 : decode cX4_clear 10 = .ok (.bipush 6, 2) := by decide +kernel
theorem dX4_clear_12 : decode cX4_clear 12 = .ok (.if_icmp .ge 18, 3) := by decide +kernel
theorem dX4_clear_15 : decode cX4_clear 15 = .ok (.aload_n 0, 1) := by decide +kernel
theorem dX4_clear_16 : decode cX4_clear 16 = .ok (.getfield 29, 3) := by decide +kernel
theorem dX4_clear_19 : decode cX4_clear 19 = .ok (.iload_n 1, 1) := by decide +kernel
theorem dX4_clear_20 : decode cX4_clear 20 = .ok (.aaload, 1) := by decide +kernel
theorem dX4_clear_21 : decode cX4_clear 21 = .ok (.invokevirtual 197, 3) := by decide +kernel
theorem dX4_clear_24 : decode cX4_clear 24 = .ok (.iinc 1 1, 3) := by decide +kernel
theorem dX4_clear_27 : decode cX4_clear 27 = .ok (.goto (-18), 3) := by decide +kernel
theorem dX4_clear_30 : decode cX4_clear 30 = .ok (.aload_n 0, 1) := by decide +kernel
theorem dX4_clear_31 : decode cX4_clear 31 = .ok (.getfield 37, 3) := by decide +kernel
theorem dX4_clear_34 : decode cX4_clear 34 = .ok (.invokevirtual 112, 3) := by decide +kernel
theorem dX4_clear_37 : decode cX4_clear 37 = .ok (.aload_n 0, 1) := by decide +kernel
theorem dX4_clear_38 : decode cX4_clear 38 = .ok (.getfield 59, 3) := by decide +kernel
theorem dX4_clear_41 : decode cX4_clear 41 = .ok (.invokevirtual 112, 3) := by decide +kernel
theorem dX4_clear_44 : decode cX4_clear 44 = .ok (.aload_n 0, 1) := by decide +kernel
theorem dX4_clear_45 : decode cX4_clear 45 = .ok (.iconst 0, 1) := by decide +kernel
theorem dX4_clear_46 : decode cX4_clear 46 = .ok (.putfield 55, 3) := by decide +kernel
theorem dX4_clear_49 : decode cX4_clear 49 = .ok (.return_, 1) := by decide +kernel
theorem dX4_isThereNow_0 : decode cX4_isThereNow 0 = .ok (.aload_n 0, 1) := by decide +kernel
theorem dX4_isThereNow_1 : decode cX4_isThereNow 1 = .ok (.getfield 29, 3) := by decide +kernel
theorem dX4_isThereNow_4 : decode cX4_isThereNow 4 = .ok (.iconst 0, 1) := by decide +kernel
theorem dX4_isThereNow_5 : decode cX4_isThereNow 5 = .ok (.aaload, 1) := by decide +kernel
theorem dX4_isThereNow_6 : decode cX4_isThereNow 6 = .ok (.getfield 190, 3) := by decide +kernel
theorem dX4_isThereNow_9 : decode cX4_isThereNow 9 = .ok (.iconst 0, 1) := by decide +kernel
theorem dX4_isThereNow_10 : decode cX4_isThereNow 10 = .ok (.iload_n 1, 1) := by decide +kernel
theorem dX4_isThereNow_11 : decode cX4_isThereNow 11 = .ok (.iload_n 2, 1) := by decide +kernel
theorem dX4_isThereNow_12 : decode cX4_isThereNow 12 = .ok (.iload_n 3, 1) := by decide +kernel
theorem dX4_isThereNow_13 : decode cX4_isThereNow 13 = .ok (.invokestatic 82, 3) := by decide +kernel
theorem dX4_isThereNow_16 : decode cX4_isThereNow 16 = .ok (.invokevirtual 198, 3) := by decide +kernel
theorem dX4_isThereNow_19 : decode cX4_isThereNow 19 = .ok (.ireturn, 1) := by decide +kernel
theorem dX4_refusalOfChange_0 : decode cX4_refusalOfChange 0 = .ok (.iload_n 1, 1) := by decide +kernel
theorem dX4_refusalOfChange_1 : decode cX4_refusalOfChange 1 = .ok (.iload_n 2, 1) := by decide +kernel
theorem dX4_refusalOfChange_2 : decode cX4_refusalOfChange 2 = .ok (.iload_n 3, 1) := by decide +kernel
theorem dX4_refusalOfChange_3 : decode cX4_refusalOfChange 3 = .ok (.invokestatic 201, 3) := by decide +kernel
theorem dX4_refusalOfChange_6 : decode cX4_refusalOfChange 6 = .ok (.ifCond .eq 11, 3) := by decide +kernel
theorem dX4_refusalOfChange_9 : decode cX4_refusalOfChange 9 = .ok (.iload 4, 2) := by decide +kernel
theorem dX4_refusalOfChange_11 : decode cX4_refusalOfChange 11 = .ok (.invokestatic 97, 3) := by decide +kernel
theorem dX4_refusalOfChange_14 : decode cX4_refusalOfChange 14 = .ok (.ifCond .ne 6, 3) := by decide +kernel
theorem dX4_refusalOfChange_17 : decode cX4_refusalOfChange 17 = .ok (.bipush (-2), 2) := by decide +kernel
theorem dX4_refusalOfChange_19 : decode cX4_refusalOfChange 19 = .ok (.ireturn, 1) := by decide +kernel
theorem dX4_refusalOfChange_20 : decode cX4_refusalOfChange 20 = .ok (.iload 4, 2) := by decide +kernel
theorem dX4_refusalOfChange_22 : decode cX4_refusalOfChange 22 = .ok (.aload_n 0, 1) := by decide +kernel
theorem dX4_refusalOfChange_23 : decode cX4_refusalOfChange 23 = .ok (.getfield 23, 3) := by decide +kernel
theorem dX4_refusalOfChange_26 : decode cX4_refusalOfChange 26 = .ok (.getfield 193, 3) := by decide +kernel
theorem dX4_refusalOfChange_29 : decode cX4_refusalOfChange 29 = .ok (.if_icmp .ge 8, 3) := by decide +kernel
theorem dX4_refusalOfChange_32 : decode cX4_refusalOfChange 32 = .ok (.bipush (-3), 2) := by decide +kernel
theorem dX4_refusalOfChange_34 : decode cX4_refusalOfChange 34 = .ok (.goto 4, 3) := by decide +kernel
theorem dX4_refusalOfChange_37 : decode cX4_refusalOfChange 37 = .ok (.iconst 0, 1) := by decide +kernel
theorem dX4_refusalOfChange_38 : decode cX4_refusalOfChange 38 = .ok (.ireturn, 1) := by decide +kernel
theorem dX4_refusalOfFirst_0 : decode cX4_refusalOfFirst 0 = .ok (.iload_n 1, 1) := by decide +kernel
theorem dX4_refusalOfFirst_1 : decode cX4_refusalOfFirst 1 = .ok (.invokestatic 172, 3) := by decide +kernel
theorem dX4_refusalOfFirst_4 : decode cX4_refusalOfFirst 4 = .ok (.ifCond .eq 17, 3) := by decide +kernel
theorem dX4_refusalOfFirst_7 : decode cX4_refusalOfFirst 7 = .ok (.iload_n 2, 1) := by decide +kernel
theorem dX4_refusalOfFirst_8 : decode cX4_refusalOfFirst 8 = .ok (.invokestatic 204, 3) := by decide +kernel
theorem dX4_refusalOfFirst_11 : decode cX4_refusalOfFirst 11 = .ok (.ifCond .eq 10, 3) := by decide +kernel
theorem dX4_refusalOfFirst_14 : decode cX4_refusalOfFirst 14 = .ok (.iload_n 3, 1) := by decide +kernel
theorem dX4_refusalOfFirst_15 : decode cX4_refusalOfFirst 15 = .ok (.invokestatic 97, 3) := by decide +kernel
theorem dX4_refusalOfFirst_18 : decode cX4_refusalOfFirst 18 = .ok (.ifCond .ne 6, 3) := by decide +kernel
theorem dX4_refusalOfFirst_21 : decode cX4_refusalOfFirst 21 = .ok (.bipush (-2), 2) := by decide +kernel
theorem dX4_refusalOfFirst_23 : decode cX4_refusalOfFirst 23 = .ok (.ireturn, 1) := by decide +kernel
theorem dX4_refusalOfFirst_24 : decode cX4_refusalOfFirst 24 = .ok (.iload_n 3, 1) := by decide +kernel
theorem dX4_refusalOfFirst_25 : decode cX4_refusalOfFirst 25 = .ok (.aload_n 0, 1) := by decide +kernel
theorem dX4_refusalOfFirst_26 : decode cX4_refusalOfFirst 26 = .ok (.getfield 23, 3) := by decide +kernel
theorem dX4_refusalOfFirst_29 : decode cX4_refusalOfFirst 29 = .ok (.getfield 101, 3) := by decide +kernel
theorem dX4_refusalOfFirst_32 : decode cX4_refusalOfFirst 32 = .ok (.if_icmp .ge 8, 3) := by decide +kernel
theorem dX4_refusalOfFirst_35 : decode cX4_refusalOfFirst 35 = .ok (.bipush (-3), 2) := by decide +kernel
theorem dX4_refusalOfFirst_37 : decode cX4_refusalOfFirst 37 = .ok (.goto 4, 3) := by decide +kernel
theorem dX4_refusalOfFirst_40 : decode cX4_refusalOfFirst 40 = .ok (.iconst 0, 1) := by decide +kernel
theorem dX4_refusalOfFirst_41 : decode cX4_refusalOfFirst 41 = .ok (.ireturn, 1) := by decide +kernel
theorem dX4_tallyFreeTerms_0 : decode cX4_tallyFreeTerms 0 = .ok (.aload_n 1, 1) := by decide +kernel
theorem dX4_tallyFreeTerms_1 : decode cX4_tallyFreeTerms 1 = .ok (.invokevirtual 207, 3) := by decide +kernel
theorem dX4_tallyFreeTerms_4 : decode cX4_tallyFreeTerms 4 = .ok (.istore 4, 2) := by decide +kernel
theorem dX4_tallyFreeTerms_6 : decode cX4_tallyFreeTerms 6 = .ok (.iconst 0, 1) := by decide +kernel
theorem dX4_tallyFreeTerms_7 : decode cX4_tallyFreeTerms 7 = .ok (.istore 5, 2) := by decide +kernel
theorem dX4_tallyFreeTerms_9 : decode cX4_tallyFreeTerms 9 = .ok (.iload 5, 2) := by decide +kernel
theorem dX4_tallyFreeTerms_11 : decode cX4_tallyFreeTerms 11 = .ok (.aload_n 0, 1) := by decide +kernel
theorem dX4_tallyFreeTerms_12 : decode cX4_tallyFreeTerms 12 = .ok (.getfield 23, 3) := by decide +kernel
theorem dX4_tallyFreeTerms_15 : decode cX4_tallyFreeTerms 15 = .ok (.getfield 115, 3) := by decide +kernel
theorem dX4_tallyFreeTerms_18 : decode cX4_tallyFreeTerms 18 = .ok (.if_icmp .ge 81, 3) := by decide +kernel
theorem dX4_tallyFreeTerms_21 : decode cX4_tallyFreeTerms 21 = .ok (.aload_n 0, 1) := by decide +kernel
theorem dX4_tallyFreeTerms_22 : decode cX4_tallyFreeTerms 22 = .ok (.getfield 23, 3) := by decide +kernel
theorem dX4_tallyFreeTerms_25 : decode cX4_tallyFreeTerms 25 = .ok (.iload 5, 2) := by decide +kernel
theorem dX4_tallyFreeTerms_27 : decode cX4_tallyFreeTerms 27 = .ok (.iload_n 3, 1) := by decide +kernel
theorem dX4_tallyFreeTerms_28 : decode cX4_tallyFreeTerms 28 = .ok (.invokevirtual 118, 3) := by decide +kernel
theorem dX4_tallyFreeTerms_31 : decode cX4_tallyFreeTerms 31 = .ok (.ifCond .eq 62, 3) := by decide +kernel
theorem dX4_tallyFreeTerms_34 : decode cX4_tallyFreeTerms 34 = .ok (.aload_n 1, 1) := by decide +kernel
theorem dX4_tallyFreeTerms_35 : decode cX4_tallyFreeTerms 35 = .ok (.aload_n 0, 1) := by decide +kernel
theorem dX4_tallyFreeTerms_36 : decode cX4_tallyFreeTerms 36 = .ok (.getfield 23, 3) := by decide +kernel
theorem dX4_tallyFreeTerms_39 : decode cX4_tallyFreeTerms 39 = .ok (.iload 5, 2) := by decide +kernel
theorem dX4_tallyFreeTerms_41 : decode cX4_tallyFreeTerms 41 = .ok (.invokevirtual 121, 3) := by decide +kernel
theorem dX4_tallyFreeTerms_44 : decode cX4_tallyFreeTerms 44 = .ok (.ifCond .eq 49, 3) := by decide +kernel
theorem dX4_tallyFreeTerms_47 : decode cX4_tallyFreeTerms 47 = .ok (.aload_n 0, 1) := by decide +kernel
theorem dX4_tallyFreeTerms_48 : decode cX4_tallyFreeTerms 48 = .ok (.getfield 23, 3) := by decide +kernel
theorem dX4_tallyFreeTerms_51 : decode cX4_tallyFreeTerms 51 = .ok (.aload_n 1, 1) := by decide +kernel
theorem dX4_tallyFreeTerms_52 : decode cX4_tallyFreeTerms 52 = .ok (.getfield 137, 3) := by decide +kernel
theorem dX4_tallyFreeTerms_55 : decode cX4_tallyFreeTerms 55 = .ok (.iload 4, 2) := by decide +kernel
theorem dX4_tallyFreeTerms_57 : decode cX4_tallyFreeTerms 57 = .ok (.iload 5, 2) := by decide +kernel
theorem dX4_tallyFreeTerms_59 : decode cX4_tallyFreeTerms 59 = .ok (.invokevirtual 166, 3) := by decide +kernel
theorem dX4_tallyFreeTerms_62 : decode cX4_tallyFreeTerms 62 = .ok (.istore 6, 2) := by decide +kernel
theorem dX4_tallyFreeTerms_64 : decode cX4_tallyFreeTerms 64 = .ok (.iload 6, 2) := by decide +kernel
theorem dX4_tallyFreeTerms_66 : decode cX4_tallyFreeTerms 66 = .ok (.invokestatic 204, 3) := by decide +kernel
theorem dX4_tallyFreeTerms_69 : decode cX4_tallyFreeTerms 69 = .ok (.ifCond .eq 24, 3) := by decide +kernel
theorem dX4_tallyFreeTerms_72 : decode cX4_tallyFreeTerms 72 = .ok (.aload_n 0, 1) := by decide +kernel
theorem dX4_tallyFreeTerms_73 : decode cX4_tallyFreeTerms 73 = .ok (.getfield 62, 3) := by decide +kernel
theorem dX4_tallyFreeTerms_76 : decode cX4_tallyFreeTerms 76 = .ok (.iload 6, 2) := by decide +kernel
theorem dX4_tallyFreeTerms_78 : decode cX4_tallyFreeTerms 78 = .ok (.iaload, 1) := by decide +kernel
theorem dX4_tallyFreeTerms_79 : decode cX4_tallyFreeTerms 79 = .ok (.iload_n 2, 1) := by decide +kernel
theorem dX4_tallyFreeTerms_80 : decode cX4_tallyFreeTerms 80 = .ok (.if_icmp .ne 13, 3) := by decide +kernel
theorem dX4_tallyFreeTerms_83 : decode cX4_tallyFreeTerms 83 = .ok (.aload_n 0, 1) := by decide +kernel
theorem dX4_tallyFreeTerms_84 : decode cX4_tallyFreeTerms 84 = .ok (.getfield 62, 3) := by decide +kernel
theorem dX4_tallyFreeTerms_87 : decode cX4_tallyFreeTerms 87 = .ok (.iload 6, 2) := by decide +kernel
theorem dX4_tallyFreeTerms_89 : decode cX4_tallyFreeTerms 89 = .ok (.iload_n 2, 1) := by decide +kernel
theorem dX4_tallyFreeTerms_90 : decode cX4_tallyFreeTerms 90 = .ok (.iconst 1, 1) := by decide +kernel
theorem dX4_tallyFreeTerms_91 : decode cX4_tallyFreeTerms 91 = .ok (.iadd, 1) := by decide +kernel
theorem dX4_tallyFreeTerms_92 : decode cX4_tallyFreeTerms 92 = .ok (.iastore, 1) := by decide +kernel
theorem dX4_tallyFreeTerms_93 : decode cX4_tallyFreeTerms 93 = .ok (.iinc 5 1, 3) := by decide +kernel
theorem dX4_tallyFreeTerms_96 : decode cX4_tallyFreeTerms 96 = .ok (.goto (-87), 3) := by decide +kernel
theorem dX4_tallyFreeTerms_99 : decode cX4_tallyFreeTerms 99 = .ok (.return_, 1) := by decide +kernel
theorem dX4_countTallied_0 : decode cX4_countTallied 0 = .ok (.iconst 0, 1) := by decide +kernel
theorem dX4_countTallied_1 : decode cX4_countTallied 1 = .ok (.istore_n 2, 1) := by decide +kernel
theorem dX4_countTallied_2 : decode cX4_countTallied 2 = .ok (.iconst 0, 1) := by decide +kernel
theorem dX4_countTallied_3 : decode cX4_countTallied 3 = .ok (.istore_n 3, 1) := by decide +kernel
theorem dX4_countTallied_4 : decode cX4_countTallied 4 = .ok (.iload_n 3, 1) := by decide +kernel
theorem dX4_countTallied_5 : decode cX4_countTallied 5 = .ok (.sipush 1000, 3) := by decide +kernel
theorem dX4_countTallied_8 : decode cX4_countTallied 8 = .ok (.if_icmp .ge 22, 3) := by decide +kernel
theorem dX4_countTallied_11 : decode cX4_countTallied 11 = .ok (.aload_n 0, 1) := by decide +kernel
theorem dX4_countTallied_12 : decode cX4_countTallied 12 = .ok (.getfield 62, 3) := by decide +kernel
theorem dX4_countTallied_15 : decode cX4_countTallied 15 = .ok (.iload_n 3, 1) := by decide +kernel
theorem dX4_countTallied_16 : decode cX4_countTallied 16 = .ok (.iaload, 1) := by decide +kernel
theorem dX4_countTallied_17 : decode cX4_countTallied 17 = .ok (.iload_n 1, 1) := by decide +kernel
theorem dX4_countTallied_18 : decode cX4_countTallied 18 = .ok (.if_icmp .ne 6, 3) := by decide +kernel
theorem dX4_countTallied_21 : decode cX4_countTallied 21 = .ok (.iinc 2 1, 3) := by decide +kernel
theorem dX4_countTallied_24 : decode cX4_countTallied 24 = .ok (.iinc 3 1, 3) := by decide +kernel
theorem dX4_countTallied_27 : decode cX4_countTallied 27 = .ok (.goto (-23), 3) := by decide +kernel
theorem dX4_countTallied_30 : decode cX4_countTallied 30 = .ok (.iload_n 2, 1) := by decide +kernel
theorem dX4_countTallied_31 : decode cX4_countTallied 31 = .ok (.ireturn, 1) := by decide +kernel
theorem dX4_isOrder_0 : decode cX4_isOrder 0 = .ok (.iload_n 0, 1) := by decide +kernel
theorem dX4_isOrder_1 : decode cX4_isOrder 1 = .ok (.ifCond .lt 13, 3) := by decide +kernel
theorem dX4_isOrder_4 : decode cX4_isOrder 4 = .ok (.iload_n 0, 1) := by decide +kernel
theorem dX4_isOrder_5 : decode cX4_isOrder 5 = .ok (.bipush 6, 2) := by decide +kernel
theorem dX4_isOrder_7 : decode cX4_isOrder 7 = .ok (.if_icmp .ge 7, 3) := by decide +kernel
theorem dX4_isOrder_10 : decode cX4_isOrder 10 = .ok (.iconst 1, 1) := by decide +kernel
theorem dX4_isOrder_11 : decode cX4_isOrder 11 = .ok (.goto 4, 3) := by decide +kernel
theorem dX4_isOrder_14 : decode cX4_isOrder 14 = .ok (.iconst 0, 1) := by decide +kernel
theorem dX4_isOrder_15 : decode cX4_isOrder 15 = .ok (.ireturn, 1) := by decide +kernel
theorem dX4_isTerm_0 : decode cX4_isTerm 0 = .ok (.iload_n 0, 1) := by decide +kernel
theorem dX4_isTerm_1 : decode cX4_isTerm 1 = .ok (.ifCond .lt 14, 3) := by decide +kernel
theorem dX4_isTerm_4 : decode cX4_isTerm 4 = .ok (.iload_n 0, 1) := by decide +kernel
theorem dX4_isTerm_5 : decode cX4_isTerm 5 = .ok (.sipush 1000, 3) := by decide +kernel
theorem dX4_isTerm_8 : decode cX4_isTerm 8 = .ok (.if_icmp .ge 7, 3) := by decide +kernel
theorem dX4_isTerm_11 : decode cX4_isTerm 11 = .ok (.iconst 1, 1) := by decide +kernel
theorem dX4_isTerm_12 : decode cX4_isTerm 12 = .ok (.goto 4, 3) := by decide +kernel
theorem dX4_isTerm_15 : decode cX4_isTerm 15 = .ok (.iconst 0, 1) := by decide +kernel
theorem dX4_isTerm_16 : decode cX4_isTerm 16 = .ok (.ireturn, 1) := by decide +kernel
theorem dX4_isTriple_0 : decode cX4_isTriple 0 = .ok (.iload_n 0, 1) := by decide +kernel
theorem dX4_isTriple_1 : decode cX4_isTriple 1 = .ok (.invokestatic 204, 3) := by decide +kernel
theorem dX4_isTriple_4 : decode cX4_isTriple 4 = .ok (.ifCond .eq 21, 3) := by decide +kernel
theorem dX4_isTriple_7 : decode cX4_isTriple 7 = .ok (.iload_n 1, 1) := by decide +kernel
theorem dX4_isTriple_8 : decode cX4_isTriple 8 = .ok (.invokestatic 204, 3) := by decide +kernel
theorem dX4_isTriple_11 : decode cX4_isTriple 11 = .ok (.ifCond .eq 14, 3) := by decide +kernel
theorem dX4_isTriple_14 : decode cX4_isTriple 14 = .ok (.iload_n 2, 1) := by decide +kernel
theorem dX4_isTriple_15 : decode cX4_isTriple 15 = .ok (.invokestatic 204, 3) := by decide +kernel
theorem dX4_isTriple_18 : decode cX4_isTriple 18 = .ok (.ifCond .eq 7, 3) := by decide +kernel
theorem dX4_isTriple_21 : decode cX4_isTriple 21 = .ok (.iconst 1, 1) := by decide +kernel
theorem dX4_isTriple_22 : decode cX4_isTriple 22 = .ok (.goto 4, 3) := by decide +kernel
theorem dX4_isTriple_25 : decode cX4_isTriple 25 = .ok (.iconst 0, 1) := by decide +kernel
theorem dX4_isTriple_26 : decode cX4_isTriple 26 = .ok (.ireturn, 1) := by decide +kernel
theorem dX4_isVersion_0 : decode cX4_isVersion 0 = .ok (.iload_n 0, 1) := by decide +kernel
theorem dX4_isVersion_1 : decode cX4_isVersion 1 = .ok (.ifCond .lt 13, 3) := by decide +kernel
theorem dX4_isVersion_4 : decode cX4_isVersion 4 = .ok (.iload_n 0, 1) := by decide +kernel
theorem dX4_isVersion_5 : decode cX4_isVersion 5 = .ok (.ldc 211, 2) := by decide +kernel
theorem dX4_isVersion_7 : decode cX4_isVersion 7 = .ok (.if_icmp .gt 7, 3) := by decide +kernel
theorem dX4_isVersion_10 : decode cX4_isVersion 10 = .ok (.iconst 1, 1) := by decide +kernel
theorem dX4_isVersion_11 : decode cX4_isVersion 11 = .ok (.goto 4, 3) := by decide +kernel
theorem dX4_isVersion_14 : decode cX4_isVersion 14 = .ok (.iconst 0, 1) := by decide +kernel
theorem dX4_isVersion_15 : decode cX4_isVersion 15 = .ok (.ireturn, 1) := by decide +kernel
theorem dX4_isRange_0 : decode cX4_isRange 0 = .ok (.iload_n 0, 1) := by decide +kernel
theorem dX4_isRange_1 : decode cX4_isRange 1 = .ok (.invokestatic 172, 3) := by decide +kernel
theorem dX4_isRange_4 : decode cX4_isRange 4 = .ok (.ifCond .eq 31, 3) := by decide +kernel
theorem dX4_isRange_7 : decode cX4_isRange 7 = .ok (.iload_n 1, 1) := by decide +kernel
theorem dX4_isRange_8 : decode cX4_isRange 8 = .ok (.iconst (-1), 1) := by decide +kernel
theorem dX4_isRange_9 : decode cX4_isRange 9 = .ok (.if_icmp .eq 10, 3) := by decide +kernel
theorem dX4_isRange_12 : decode cX4_isRange 12 = .ok (.iload_n 1, 1) := by decide +kernel
theorem dX4_isRange_13 : decode cX4_isRange 13 = .ok (.invokestatic 204, 3) := by decide +kernel
theorem dX4_isRange_16 : decode cX4_isRange 16 = .ok (.ifCond .eq 19, 3) := by decide +kernel
theorem dX4_isRange_19 : decode cX4_isRange 19 = .ok (.iload_n 2, 1) := by decide +kernel
theorem dX4_isRange_20 : decode cX4_isRange 20 = .ok (.iconst (-1), 1) := by decide +kernel
theorem dX4_isRange_21 : decode cX4_isRange 21 = .ok (.if_icmp .eq 10, 3) := by decide +kernel
theorem dX4_isRange_24 : decode cX4_isRange 24 = .ok (.iload_n 2, 1) := by decide +kernel
theorem dX4_isRange_25 : decode cX4_isRange 25 = .ok (.invokestatic 204, 3) := by decide +kernel
theorem dX4_isRange_28 : decode cX4_isRange 28 = .ok (.ifCond .eq 7, 3) := by decide +kernel
theorem dX4_isRange_31 : decode cX4_isRange 31 = .ok (.iconst 1, 1) := by decide +kernel
theorem dX4_isRange_32 : decode cX4_isRange 32 = .ok (.goto 4, 3) := by decide +kernel
theorem dX4_isRange_35 : decode cX4_isRange 35 = .ok (.iconst 0, 1) := by decide +kernel
theorem dX4_isRange_36 : decode cX4_isRange 36 = .ok (.ireturn, 1) := by decide +kernel
theorem dX4_isSecondAlone_0 : decode cX4_isSecondAlone 0 = .ok (.iload_n 0, 1) := by decide +kernel
theorem dX4_isSecondAlone_1 : decode cX4_isSecondAlone 1 = .ok (.iconst (-1), 1) := by decide +kernel
theorem dX4_isSecondAlone_2 : decode cX4_isSecondAlone 2 = .ok (.if_icmp .ne 12, 3) := by decide +kernel
theorem dX4_isSecondAlone_5 : decode cX4_isSecondAlone 5 = .ok (.iload_n 1, 1) := by decide +kernel
theorem dX4_isSecondAlone_6 : decode cX4_isSecondAlone 6 = .ok (.iconst (-1), 1) := by decide +kernel
theorem dX4_isSecondAlone_7 : decode cX4_isSecondAlone 7 = .ok (.if_icmp .eq 7, 3) := by decide +kernel
theorem dX4_isSecondAlone_10 : decode cX4_isSecondAlone 10 = .ok (.iconst 1, 1) := by decide +kernel
theorem dX4_isSecondAlone_11 : decode cX4_isSecondAlone 11 = .ok (.goto 4, 3) := by decide +kernel
theorem dX4_isSecondAlone_14 : decode cX4_isSecondAlone 14 = .ok (.iconst 0, 1) := by decide +kernel
theorem dX4_isSecondAlone_15 : decode cX4_isSecondAlone 15 = .ok (.ireturn, 1) := by decide +kernel
theorem dX4_pick_0 : decode cX4_pick 0 = .ok (.iload_n 0, 1) := by decide +kernel
theorem dX4_pick_1 : decode cX4_pick 1 = .ok (.ifCond .ne 7, 3) := by decide +kernel
theorem dX4_pick_4 : decode cX4_pick 4 = .ok (.iload_n 1, 1) := by decide +kernel
theorem dX4_pick_5 : decode cX4_pick 5 = .ok (.goto 13, 3) := by decide +kernel
theorem dX4_pick_8 : decode cX4_pick 8 = .ok (.iload_n 0, 1) := by decide +kernel
theorem dX4_pick_9 : decode cX4_pick 9 = .ok (.iconst 1, 1) := by decide +kernel
theorem dX4_pick_10 : decode cX4_pick 10 = .ok (.if_icmp .ne 7, 3) := by decide +kernel
theorem dX4_pick_13 : decode cX4_pick 13 = .ok (.iload_n 2, 1) := by decide +kernel
theorem dX4_pick_14 : decode cX4_pick 14 = .ok (.goto 4, 3) := by decide +kernel
theorem dX4_pick_17 : decode cX4_pick 17 = .ok (.iload_n 3, 1) := by decide +kernel
theorem dX4_pick_18 : decode cX4_pick 18 = .ok (.ireturn, 1) := by decide +kernel
theorem dX4_keyOf_0 : decode cX4_keyOf 0 = .ok (.iload_n 0, 1) := by decide +kernel
theorem dX4_keyOf_1 : decode cX4_keyOf 1 = .ok (.invokestatic 172, 3) := by decide +kernel
theorem dX4_keyOf_4 : decode cX4_keyOf 4 = .ok (.ifCond .ne 5, 3) := by decide +kernel
theorem dX4_keyOf_7 : decode cX4_keyOf 7 = .ok (.iconst (-1), 1) := by decide +kernel
theorem dX4_keyOf_8 : decode cX4_keyOf 8 = .ok (.ireturn, 1) := by decide +kernel
theorem dX4_keyOf_9 : decode cX4_keyOf 9 = .ok (.getstatic 212, 3) := by decide +kernel
theorem dX4_keyOf_12 : decode cX4_keyOf 12 = .ok (.iload_n 0, 1) := by decide +kernel
theorem dX4_keyOf_13 : decode cX4_keyOf 13 = .ok (.iconst 3, 1) := by decide +kernel
theorem dX4_keyOf_14 : decode cX4_keyOf 14 = .ok (.imul, 1) := by decide +kernel
theorem dX4_keyOf_15 : decode cX4_keyOf 15 = .ok (.iaload, 1) := by decide +kernel
theorem dX4_keyOf_16 : decode cX4_keyOf 16 = .ok (.iload_n 1, 1) := by decide +kernel
theorem dX4_keyOf_17 : decode cX4_keyOf 17 = .ok (.iload_n 2, 1) := by decide +kernel
theorem dX4_keyOf_18 : decode cX4_keyOf 18 = .ok (.iload_n 3, 1) := by decide +kernel
theorem dX4_keyOf_19 : decode cX4_keyOf 19 = .ok (.invokestatic 215, 3) := by decide +kernel
theorem dX4_keyOf_22 : decode cX4_keyOf 22 = .ok (.ldc 211, 2) := by decide +kernel
theorem dX4_keyOf_24 : decode cX4_keyOf 24 = .ok (.imul, 1) := by decide +kernel
theorem dX4_keyOf_25 : decode cX4_keyOf 25 = .ok (.getstatic 212, 3) := by decide +kernel
theorem dX4_keyOf_28 : decode cX4_keyOf 28 = .ok (.iload_n 0, 1) := by decide +kernel
theorem dX4_keyOf_29 : decode cX4_keyOf 29 = .ok (.iconst 3, 1) := by decide +kernel
theorem dX4_keyOf_30 : decode cX4_keyOf 30 = .ok (.imul, 1) := by decide +kernel
theorem dX4_keyOf_31 : decode cX4_keyOf 31 = .ok (.iconst 1, 1) := by decide +kernel
theorem dX4_keyOf_32 : decode cX4_keyOf 32 = .ok (.iadd, 1) := by decide +kernel
theorem dX4_keyOf_33 : decode cX4_keyOf 33 = .ok (.iaload, 1) := by decide +kernel
theorem dX4_keyOf_34 : decode cX4_keyOf 34 = .ok (.iload_n 1, 1) := by decide +kernel
theorem dX4_keyOf_35 : decode cX4_keyOf 35 = .ok (.iload_n 2, 1) := by decide +kernel
theorem dX4_keyOf_36 : decode cX4_keyOf 36 = .ok (.iload_n 3, 1) := by decide +kernel
theorem dX4_keyOf_37 : decode cX4_keyOf 37 = .ok (.invokestatic 215, 3) := by decide +kernel
theorem dX4_keyOf_40 : decode cX4_keyOf 40 = .ok (.sipush 1000, 3) := by decide +kernel
theorem dX4_keyOf_43 : decode cX4_keyOf 43 = .ok (.imul, 1) := by decide +kernel
theorem dX4_keyOf_44 : decode cX4_keyOf 44 = .ok (.iadd, 1) := by decide +kernel
theorem dX4_keyOf_45 : decode cX4_keyOf 45 = .ok (.getstatic 212, 3) := by decide +kernel
theorem dX4_keyOf_48 : decode cX4_keyOf 48 = .ok (.iload_n 0, 1) := by decide +kernel
theorem dX4_keyOf_49 : decode cX4_keyOf 49 = .ok (.iconst 3, 1) := by decide +kernel
theorem dX4_keyOf_50 : decode cX4_keyOf 50 = .ok (.imul, 1) := by decide +kernel
theorem dX4_keyOf_51 : decode cX4_keyOf 51 = .ok (.iconst 2, 1) := by decide +kernel
theorem dX4_keyOf_52 : decode cX4_keyOf 52 = .ok (.iadd, 1) := by decide +kernel
theorem dX4_keyOf_53 : decode cX4_keyOf 53 = .ok (.iaload, 1) := by decide +kernel
theorem dX4_keyOf_54 : decode cX4_keyOf 54 = .ok (.iload_n 1, 1) := by decide +kernel
theorem dX4_keyOf_55 : decode cX4_keyOf 55 = .ok (.iload_n 2, 1) := by decide +kernel
theorem dX4_keyOf_56 : decode cX4_keyOf 56 = .ok (.iload_n 3, 1) := by decide +kernel
theorem dX4_keyOf_57 : decode cX4_keyOf 57 = .ok (.invokestatic 215, 3) := by decide +kernel
theorem dX4_keyOf_60 : decode cX4_keyOf 60 = .ok (.iadd, 1) := by decide +kernel
theorem dX4_keyOf_61 : decode cX4_keyOf 61 = .ok (.ireturn, 1) := by decide +kernel
theorem dX4_termOfKey_0 : decode cX4_termOfKey 0 = .ok (.iload_n 1, 1) := by decide +kernel
theorem dX4_termOfKey_1 : decode cX4_termOfKey 1 = .ok (.ifCond .ne 8, 3) := by decide +kernel
theorem dX4_termOfKey_4 : decode cX4_termOfKey 4 = .ok (.iload_n 0, 1) := by decide +kernel
theorem dX4_termOfKey_5 : decode cX4_termOfKey 5 = .ok (.ldc 211, 2) := by decide +kernel
theorem dX4_termOfKey_7 : decode cX4_termOfKey 7 = .ok (.idiv, 1) := by decide +kernel
theorem dX4_termOfKey_8 : decode cX4_termOfKey 8 = .ok (.ireturn, 1) := by decide +kernel
theorem dX4_termOfKey_9 : decode cX4_termOfKey 9 = .ok (.iload_n 1, 1) := by decide +kernel
theorem dX4_termOfKey_10 : decode cX4_termOfKey 10 = .ok (.iconst 1, 1) := by decide +kernel
theorem dX4_termOfKey_11 : decode cX4_termOfKey 11 = .ok (.if_icmp .ne 15, 3) := by decide +kernel
theorem dX4_termOfKey_14 : decode cX4_termOfKey 14 = .ok (.iload_n 0, 1) := by decide +kernel
theorem dX4_termOfKey_15 : decode cX4_termOfKey 15 = .ok (.sipush 1000, 3) := by decide +kernel
theorem dX4_termOfKey_18 : decode cX4_termOfKey 18 = .ok (.idiv, 1) := by decide +kernel
theorem dX4_termOfKey_19 : decode cX4_termOfKey 19 = .ok (.sipush 1000, 3) := by decide +kernel
theorem dX4_termOfKey_22 : decode cX4_termOfKey 22 = .ok (.irem, 1) := by decide +kernel
theorem dX4_termOfKey_23 : decode cX4_termOfKey 23 = .ok (.goto 8, 3) := by decide +kernel
theorem dX4_termOfKey_26 : decode cX4_termOfKey 26 = .ok (.iload_n 0, 1) := by decide +kernel
theorem dX4_termOfKey_27 : decode cX4_termOfKey 27 = .ok (.sipush 1000, 3) := by decide +kernel
theorem dX4_termOfKey_30 : decode cX4_termOfKey 30 = .ok (.irem, 1) := by decide +kernel
theorem dX4_termOfKey_31 : decode cX4_termOfKey 31 = .ok (.ireturn, 1) := by decide +kernel
