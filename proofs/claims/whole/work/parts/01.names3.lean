theorem dX8_comesRound_0 : decode cX8_comesRound 0 = .ok (.aload_n 0, 1) := by decide +kernel
theorem dX8_comesRound_1 : decode cX8_comesRound 1 = .ok (.invokevirtual 60, 3) := by decide +kernel
theorem dX8_comesRound_4 : decode cX8_comesRound 4 = .ok (.aload_n 0, 1) := by decide +kernel
theorem dX8_comesRound_5 : decode cX8_comesRound 5 = .ok (.invokevirtual 73, 3) := by decide +kernel
theorem dX8_comesRound_8 : decode cX8_comesRound 8 = .ok (.iconst 1, 1) := by decide +kernel
theorem dX8_comesRound_9 : decode cX8_comesRound 9 = .ok (.istore_n 1, 1) := by decide +kernel
theorem dX8_comesRound_10 : decode cX8_comesRound 10 = .ok (.iload_n 1, 1) := by decide +kernel
theorem dX8_comesRound_11 : decode cX8_comesRound 11 = .ok (.sipush 1000, 3) := by decide +kernel
theorem dX8_comesRound_14 : decode cX8_comesRound 14 = .ok (.if_icmp .ge 20, 3) := by decide +kernel
theorem dX8_comesRound_17 : decode cX8_comesRound 17 = .ok (.aload_n 0, 1) := by decide +kernel
theorem dX8_comesRound_18 : decode cX8_comesRound 18 = .ok (.invokevirtual 93, 3) := by decide +kernel
theorem dX8_comesRound_21 : decode cX8_comesRound 21 = .ok (.ifCond .ne 13, 3) := by decide +kernel
theorem dX8_comesRound_24 : decode cX8_comesRound 24 = .ok (.aload_n 0, 1) := by decide +kernel
theorem dX8_comesRound_25 : decode cX8_comesRound 25 = .ok (.invokevirtual 73, 3) := by decide +kernel
theorem dX8_comesRound_28 : decode cX8_comesRound 28 = .ok (.iinc 1 1, 3) := by decide +kernel
theorem dX8_comesRound_31 : decode cX8_comesRound 31 = .ok (.goto (-21), 3) := by decide +kernel
theorem dX8_comesRound_34 : decode cX8_comesRound 34 = .ok (.aload_n 0, 1) := by decide +kernel
theorem dX8_comesRound_35 : decode cX8_comesRound 35 = .ok (.invokevirtual 93, 3) := by decide +kernel
theorem dX8_comesRound_38 : decode cX8_comesRound 38 = .ok (.istore_n 2, 1) := by decide +kernel
theorem dX8_comesRound_39 : decode cX8_comesRound 39 = .ok (.aload_n 0, 1) := by decide +kernel
theorem dX8_comesRound_40 : decode cX8_comesRound 40 = .ok (.invokevirtual 90, 3) := by decide +kernel
theorem dX8_comesRound_43 : decode cX8_comesRound 43 = .ok (.iload_n 2, 1) := by decide +kernel
theorem dX8_comesRound_44 : decode cX8_comesRound 44 = .ok (.ifCond .eq 7, 3) := by decide +kernel
theorem dX8_comesRound_47 : decode cX8_comesRound 47 = .ok (.iload_n 1, 1) := by decide +kernel
theorem dX8_comesRound_48 : decode cX8_comesRound 48 = .ok (.goto 5, 3) := by decide +kernel
theorem dX8_comesRound_51 : decode cX8_comesRound 51 = .ok (.bipush (-6), 2) := by decide +kernel
theorem dX8_comesRound_53 : decode cX8_comesRound 53 = .ok (.ireturn, 1) := by decide +kernel
theorem dX8_stateBehind_0 : decode cX8_stateBehind 0 = .ok (.iload_n 1, 1) := by decide +kernel
theorem dX8_stateBehind_1 : decode cX8_stateBehind 1 = .ok (.invokestatic 76, 3) := by decide +kernel
theorem dX8_stateBehind_4 : decode cX8_stateBehind 4 = .ok (.ifCond .ne 5, 3) := by decide +kernel
theorem dX8_stateBehind_7 : decode cX8_stateBehind 7 = .ok (.iconst (-1), 1) := by decide +kernel
theorem dX8_stateBehind_8 : decode cX8_stateBehind 8 = .ok (.ireturn, 1) := by decide +kernel
theorem dX8_stateBehind_9 : decode cX8_stateBehind 9 = .ok (.iload_n 2, 1) := by decide +kernel
theorem dX8_stateBehind_10 : decode cX8_stateBehind 10 = .ok (.i2l, 1) := by decide +kernel
theorem dX8_stateBehind_11 : decode cX8_stateBehind 11 = .ok (.lconst 1, 1) := by decide +kernel
theorem dX8_stateBehind_12 : decode cX8_stateBehind 12 = .ok (.ldc2_w 70, 3) := by decide +kernel
theorem dX8_stateBehind_15 : decode cX8_stateBehind 15 = .ok (.invokestatic 44, 3) := by decide +kernel
theorem dX8_stateBehind_18 : decode cX8_stateBehind 18 = .ok (.ifCond .ne 6, 3) := by decide +kernel
theorem dX8_stateBehind_21 : decode cX8_stateBehind 21 = .ok (.bipush (-2), 2) := by decide +kernel
theorem dX8_stateBehind_23 : decode cX8_stateBehind 23 = .ok (.ireturn, 1) := by decide +kernel
theorem dX8_stateBehind_24 : decode cX8_stateBehind 24 = .ok (.aload_n 0, 1) := by decide +kernel
theorem dX8_stateBehind_25 : decode cX8_stateBehind 25 = .ok (.invokevirtual 60, 3) := by decide +kernel
theorem dX8_stateBehind_28 : decode cX8_stateBehind 28 = .ok (.iconst 0, 1) := by decide +kernel
theorem dX8_stateBehind_29 : decode cX8_stateBehind 29 = .ok (.istore_n 3, 1) := by decide +kernel
theorem dX8_stateBehind_30 : decode cX8_stateBehind 30 = .ok (.iload_n 3, 1) := by decide +kernel
theorem dX8_stateBehind_31 : decode cX8_stateBehind 31 = .ok (.iload_n 2, 1) := by decide +kernel
theorem dX8_stateBehind_32 : decode cX8_stateBehind 32 = .ok (.if_icmp .ge 13, 3) := by decide +kernel
theorem dX8_stateBehind_35 : decode cX8_stateBehind 35 = .ok (.aload_n 0, 1) := by decide +kernel
theorem dX8_stateBehind_36 : decode cX8_stateBehind 36 = .ok (.invokevirtual 73, 3) := by decide +kernel
theorem dX8_stateBehind_39 : decode cX8_stateBehind 39 = .ok (.iinc 3 1, 3) := by decide +kernel
theorem dX8_stateBehind_42 : decode cX8_stateBehind 42 = .ok (.goto (-12), 3) := by decide +kernel
theorem dX8_stateBehind_45 : decode cX8_stateBehind 45 = .ok (.aload_n 0, 1) := by decide +kernel
theorem dX8_stateBehind_46 : decode cX8_stateBehind 46 = .ok (.getfield 7, 3) := by decide +kernel
theorem dX8_stateBehind_49 : decode cX8_stateBehind 49 = .ok (.iconst 0, 1) := by decide +kernel
theorem dX8_stateBehind_50 : decode cX8_stateBehind 50 = .ok (.iload_n 1, 1) := by decide +kernel
theorem dX8_stateBehind_51 : decode cX8_stateBehind 51 = .ok (.iadd, 1) := by decide +kernel
theorem dX8_stateBehind_52 : decode cX8_stateBehind 52 = .ok (.iaload, 1) := by decide +kernel
theorem dX8_stateBehind_53 : decode cX8_stateBehind 53 = .ok (.istore_n 3, 1) := by decide +kernel
theorem dX8_stateBehind_54 : decode cX8_stateBehind 54 = .ok (.aload_n 0, 1) := by decide +kernel
theorem dX8_stateBehind_55 : decode cX8_stateBehind 55 = .ok (.invokevirtual 90, 3) := by decide +kernel
theorem dX8_stateBehind_58 : decode cX8_stateBehind 58 = .ok (.iload_n 3, 1) := by decide +kernel
theorem dX8_stateBehind_59 : decode cX8_stateBehind 59 = .ok (.ireturn, 1) := by decide +kernel
theorem dX8_put_0 : decode cX8_put 0 = .ok (.iconst 0, 1) := by decide +kernel
theorem dX8_put_1 : decode cX8_put 1 = .ok (.istore_n 3, 1) := by decide +kernel
theorem dX8_put_2 : decode cX8_put 2 = .ok (.iconst 1, 1) := by decide +kernel
theorem dX8_put_3 : decode cX8_put 3 = .ok (.istore 4, 2) := by decide +kernel
theorem dX8_put_5 : decode cX8_put 5 = .ok (.lload_n 1, 1) := by decide +kernel
theorem dX8_put_6 : decode cX8_put 6 = .ok (.lstore 5, 2) := by decide +kernel
theorem dX8_put_8 : decode cX8_put 8 = .ok (.iload_n 3, 1) := by decide +kernel
theorem dX8_put_9 : decode cX8_put 9 = .ok (.bipush 8, 2) := by decide +kernel
theorem dX8_put_11 : decode cX8_put 11 = .ok (.if_icmp .ge 57, 3) := by decide +kernel
theorem dX8_put_14 : decode cX8_put 14 = .ok (.lload 5, 2) := by decide +kernel
theorem dX8_put_16 : decode cX8_put 16 = .ok (.ldc2_w 97, 3) := by decide +kernel
theorem dX8_put_19 : decode cX8_put 19 = .ok (.land, 1) := by decide +kernel
theorem dX8_put_20 : decode cX8_put 20 = .ok (.lconst 0, 1) := by decide +kernel
theorem dX8_put_21 : decode cX8_put 21 = .ok (.lcmp, 1) := by decide +kernel
theorem dX8_put_22 : decode cX8_put 22 = .ok (.ifCond .eq 46, 3) := by decide +kernel
theorem dX8_put_25 : decode cX8_put 25 = .ok (.iload 4, 2) := by decide +kernel
theorem dX8_put_27 : decode cX8_put 27 = .ok (.ifCond .eq 25, 3) := by decide +kernel
theorem dX8_put_30 : decode cX8_put 30 = .ok (.lload 5, 2) := by decide +kernel
theorem dX8_put_32 : decode cX8_put 32 = .ok (.ldc2_w 97, 3) := by decide +kernel
theorem dX8_put_35 : decode cX8_put 35 = .ok (.land, 1) := by decide +kernel
theorem dX8_put_36 : decode cX8_put 36 = .ok (.ldc2_w 99, 3) := by decide +kernel
theorem dX8_put_39 : decode cX8_put 39 = .ok (.ldc2_w 101, 3) := by decide +kernel
theorem dX8_put_42 : decode cX8_put 42 = .ok (.invokestatic 44, 3) := by decide +kernel
theorem dX8_put_45 : decode cX8_put 45 = .ok (.ifCond .eq 7, 3) := by decide +kernel
theorem dX8_put_48 : decode cX8_put 48 = .ok (.iconst 1, 1) := by decide +kernel
theorem dX8_put_49 : decode cX8_put 49 = .ok (.goto 4, 3) := by decide +kernel
theorem dX8_put_52 : decode cX8_put 52 = .ok (.iconst 0, 1) := by decide +kernel
theorem dX8_put_53 : decode cX8_put 53 = .ok (.istore 4, 2) := by decide +kernel
theorem dX8_put_55 : decode cX8_put 55 = .ok (.lload 5, 2) := by decide +kernel
theorem dX8_put_57 : decode cX8_put 57 = .ok (.bipush 8, 2) := by decide +kernel
theorem dX8_put_59 : decode cX8_put 59 = .ok (.lushr, 1) := by decide +kernel
theorem dX8_put_60 : decode cX8_put 60 = .ok (.lstore 5, 2) := by decide +kernel
theorem dX8_put_62 : decode cX8_put 62 = .ok (.iinc 3 1, 3) := by decide +kernel
theorem dX8_put_65 : decode cX8_put 65 = .ok (.goto (-57), 3) := by decide +kernel
theorem dX8_put_68 : decode cX8_put 68 = .ok (.iload_n 3, 1) := by decide +kernel
theorem dX8_put_69 : decode cX8_put 69 = .ok (.ifCond .eq 15, 3) := by decide +kernel
theorem dX8_put_72 : decode cX8_put 72 = .ok (.lload 5, 2) := by decide +kernel
theorem dX8_put_74 : decode cX8_put 74 = .ok (.lconst 0, 1) := by decide +kernel
theorem dX8_put_75 : decode cX8_put 75 = .ok (.lcmp, 1) := by decide +kernel
theorem dX8_put_76 : decode cX8_put 76 = .ok (.ifCond .ne 8, 3) := by decide +kernel
theorem dX8_put_79 : decode cX8_put 79 = .ok (.iload 4, 2) := by decide +kernel
theorem dX8_put_81 : decode cX8_put 81 = .ok (.ifCond .ne 6, 3) := by decide +kernel
theorem dX8_put_84 : decode cX8_put 84 = .ok (.bipush (-2), 2) := by decide +kernel
theorem dX8_put_86 : decode cX8_put 86 = .ok (.ireturn, 1) := by decide +kernel
theorem dX8_put_87 : decode cX8_put 87 = .ok (.aload_n 0, 1) := by decide +kernel
theorem dX8_put_88 : decode cX8_put 88 = .ok (.getfield 87, 3) := by decide +kernel
theorem dX8_put_91 : decode cX8_put 91 = .ok (.iload_n 3, 1) := by decide +kernel
theorem dX8_put_92 : decode cX8_put 92 = .ok (.iadd, 1) := by decide +kernel
theorem dX8_put_93 : decode cX8_put 93 = .ok (.bipush 30, 2) := by decide +kernel
theorem dX8_put_95 : decode cX8_put 95 = .ok (.if_icmp .le 6, 3) := by decide +kernel
theorem dX8_put_98 : decode cX8_put 98 = .ok (.bipush (-4), 2) := by decide +kernel
theorem dX8_put_100 : decode cX8_put 100 = .ok (.ireturn, 1) := by decide +kernel
theorem dX8_put_101 : decode cX8_put 101 = .ok (.iload_n 3, 1) := by decide +kernel
theorem dX8_put_102 : decode cX8_put 102 = .ok (.iconst 1, 1) := by decide +kernel
theorem dX8_put_103 : decode cX8_put 103 = .ok (.isub, 1) := by decide +kernel
theorem dX8_put_104 : decode cX8_put 104 = .ok (.istore 7, 2) := by decide +kernel
theorem dX8_put_106 : decode cX8_put 106 = .ok (.iload 7, 2) := by decide +kernel
theorem dX8_put_108 : decode cX8_put 108 = .ok (.ifCond .lt 40, 3) := by decide +kernel
theorem dX8_put_111 : decode cX8_put 111 = .ok (.aload_n 0, 1) := by decide +kernel
theorem dX8_put_112 : decode cX8_put 112 = .ok (.getfield 25, 3) := by decide +kernel
theorem dX8_put_115 : decode cX8_put 115 = .ok (.aload_n 0, 1) := by decide +kernel
theorem dX8_put_116 : decode cX8_put 116 = .ok (.getfield 87, 3) := by decide +kernel
theorem dX8_put_119 : decode cX8_put 119 = .ok (.lload_n 1, 1) := by decide +kernel
theorem dX8_put_120 : decode cX8_put 120 = .ok (.bipush 8, 2) := by decide +kernel
theorem dX8_put_122 : decode cX8_put 122 = .ok (.iload 7, 2) := by decide +kernel
theorem dX8_put_124 : decode cX8_put 124 = .ok (.imul, 1) := by decide +kernel
theorem dX8_put_125 : decode cX8_put 125 = .ok (.lushr, 1) := by decide +kernel
theorem dX8_put_126 : decode cX8_put 126 = .ok (.ldc2_w 97, 3) := by decide +kernel
theorem dX8_put_129 : decode cX8_put 129 = .ok (.land, 1) := by decide +kernel
theorem dX8_put_130 : decode cX8_put 130 = .ok (.l2i, 1) := by decide +kernel
theorem dX8_put_131 : decode cX8_put 131 = .ok (.iastore, 1) := by decide +kernel
theorem dX8_put_132 : decode cX8_put 132 = .ok (.aload_n 0, 1) := by decide +kernel
theorem dX8_put_133 : decode cX8_put 133 = .ok (.dup, 1) := by decide +kernel
theorem dX8_put_134 : decode cX8_put 134 = .ok (.getfield 87, 3) := by decide +kernel
theorem dX8_put_137 : decode cX8_put 137 = .ok (.iconst 1, 1) := by decide +kernel
theorem dX8_put_138 : decode cX8_put 138 = .ok (.iadd, 1) := by decide +kernel
theorem dX8_put_139 : decode cX8_put 139 = .ok (.putfield 87, 3) := by decide +kernel
theorem dX8_put_142 : decode cX8_put 142 = .ok (.iinc 7 (-1), 3) := by decide +kernel
theorem dX8_put_145 : decode cX8_put 145 = .ok (.goto (-39), 3) := by decide +kernel
theorem dX8_put_148 : decode cX8_put 148 = .ok (.aload_n 0, 1) := by decide +kernel
theorem dX8_put_149 : decode cX8_put 149 = .ok (.getfield 87, 3) := by decide +kernel
theorem dX8_put_152 : decode cX8_put 152 = .ok (.ireturn, 1) := by decide +kernel
theorem dX8_wipe_0 : decode cX8_wipe 0 = .ok (.aload_n 0, 1) := by decide +kernel
theorem dX8_wipe_1 : decode cX8_wipe 1 = .ok (.getfield 87, 3) := by decide +kernel
theorem dX8_wipe_4 : decode cX8_wipe 4 = .ok (.istore_n 1, 1) := by decide +kernel
theorem dX8_wipe_5 : decode cX8_wipe 5 = .ok (.aload_n 0, 1) := by decide +kernel
theorem dX8_wipe_6 : decode cX8_wipe 6 = .ok (.iconst 0, 1) := by decide +kernel
theorem dX8_wipe_7 : decode cX8_wipe 7 = .ok (.putfield 87, 3) := by decide +kernel
theorem dX8_wipe_10 : decode cX8_wipe 10 = .ok (.iload_n 1, 1) := by decide +kernel
theorem dX8_wipe_11 : decode cX8_wipe 11 = .ok (.ireturn, 1) := by decide +kernel
theorem dX8_isAt_0 : decode cX8_isAt 0 = .ok (.iload_n 1, 1) := by decide +kernel
theorem dX8_isAt_1 : decode cX8_isAt 1 = .ok (.aload_n 0, 1) := by decide +kernel
theorem dX8_isAt_2 : decode cX8_isAt 2 = .ok (.getfield 87, 3) := by decide +kernel
theorem dX8_isAt_5 : decode cX8_isAt 5 = .ok (.if_icmp .ge 24, 3) := by decide +kernel
theorem dX8_isAt_8 : decode cX8_isAt 8 = .ok (.aload_n 0, 1) := by decide +kernel
theorem dX8_isAt_9 : decode cX8_isAt 9 = .ok (.getfield 25, 3) := by decide +kernel
theorem dX8_isAt_12 : decode cX8_isAt 12 = .ok (.iload_n 1, 1) := by decide +kernel
theorem dX8_isAt_13 : decode cX8_isAt 13 = .ok (.iaload, 1) := by decide +kernel
theorem dX8_isAt_14 : decode cX8_isAt 14 = .ok (.i2l, 1) := by decide +kernel
theorem dX8_isAt_15 : decode cX8_isAt 15 = .ok (.iload_n 2, 1) := by decide +kernel
theorem dX8_isAt_16 : decode cX8_isAt 16 = .ok (.i2l, 1) := by decide +kernel
theorem dX8_isAt_17 : decode cX8_isAt 17 = .ok (.iload_n 3, 1) := by decide +kernel
theorem dX8_isAt_18 : decode cX8_isAt 18 = .ok (.i2l, 1) := by decide +kernel
theorem dX8_isAt_19 : decode cX8_isAt 19 = .ok (.invokestatic 44, 3) := by decide +kernel
theorem dX8_isAt_22 : decode cX8_isAt 22 = .ok (.ifCond .eq 7, 3) := by decide +kernel
theorem dX8_isAt_25 : decode cX8_isAt 25 = .ok (.iconst 1, 1) := by decide +kernel
theorem dX8_isAt_26 : decode cX8_isAt 26 = .ok (.goto 4, 3) := by decide +kernel
theorem dX8_isAt_29 : decode cX8_isAt 29 = .ok (.iconst 0, 1) := by decide +kernel
theorem dX8_isAt_30 : decode cX8_isAt 30 = .ok (.ireturn, 1) := by decide +kernel
theorem dX8_fault_0 : decode cX8_fault 0 = .ok (.aload_n 0, 1) := by decide +kernel
theorem dX8_fault_1 : decode cX8_fault 1 = .ok (.iconst 0, 1) := by decide +kernel
theorem dX8_fault_2 : decode cX8_fault 2 = .ok (.bipush 48, 2) := by decide +kernel
theorem dX8_fault_4 : decode cX8_fault 4 = .ok (.bipush 49, 2) := by decide +kernel
theorem dX8_fault_6 : decode cX8_fault 6 = .ok (.invokevirtual 103, 3) := by decide +kernel
theorem dX8_fault_9 : decode cX8_fault 9 = .ok (.ifCond .ne 5, 3) := by decide +kernel
theorem dX8_fault_12 : decode cX8_fault 12 = .ok (.iconst 0, 1) := by decide +kernel
theorem dX8_fault_13 : decode cX8_fault 13 = .ok (.ireturn, 1) := by decide +kernel
theorem dX8_fault_14 : decode cX8_fault 14 = .ok (.aload_n 0, 1) := by decide +kernel
theorem dX8_fault_15 : decode cX8_fault 15 = .ok (.iconst 1, 1) := by decide +kernel
theorem dX8_fault_16 : decode cX8_fault 16 = .ok (.bipush 58, 2) := by decide +kernel
theorem dX8_fault_18 : decode cX8_fault 18 = .ok (.bipush 58, 2) := by decide +kernel
theorem dX8_fault_20 : decode cX8_fault 20 = .ok (.invokevirtual 103, 3) := by decide +kernel
theorem dX8_fault_23 : decode cX8_fault 23 = .ok (.ifCond .ne 5, 3) := by decide +kernel
theorem dX8_fault_26 : decode cX8_fault 26 = .ok (.iconst 1, 1) := by decide +kernel
theorem dX8_fault_27 : decode cX8_fault 27 = .ok (.ireturn, 1) := by decide +kernel
theorem dX8_fault_28 : decode cX8_fault 28 = .ok (.iconst 2, 1) := by decide +kernel
theorem dX8_fault_29 : decode cX8_fault 29 = .ok (.istore_n 1, 1) := by decide +kernel
theorem dX8_fault_30 : decode cX8_fault 30 = .ok (.aload_n 0, 1) := by decide +kernel
theorem dX8_fault_31 : decode cX8_fault 31 = .ok (.iconst 0, 1) := by decide +kernel
theorem dX8_fault_32 : decode cX8_fault 32 = .ok (.putfield 107, 3) := by decide +kernel
theorem dX8_fault_35 : decode cX8_fault 35 = .ok (.aload_n 0, 1) := by decide +kernel
theorem dX8_fault_36 : decode cX8_fault 36 = .ok (.getfield 107, 3) := by decide +kernel
theorem dX8_fault_39 : decode cX8_fault 39 = .ok (.bipush 8, 2) := by decide +kernel
theorem dX8_fault_41 : decode cX8_fault 41 = .ok (.if_icmp .ge 109, 3) := by decide +kernel
theorem dX8_fault_44 : decode cX8_fault 44 = .ok (.aload_n 0, 1) := by decide +kernel
theorem dX8_fault_45 : decode cX8_fault 45 = .ok (.iload_n 1, 1) := by decide +kernel
theorem dX8_fault_46 : decode cX8_fault 46 = .ok (.bipush 48, 2) := by decide +kernel
theorem dX8_fault_48 : decode cX8_fault 48 = .ok (.bipush 55, 2) := by decide +kernel
theorem dX8_fault_50 : decode cX8_fault 50 = .ok (.invokevirtual 103, 3) := by decide +kernel
theorem dX8_fault_53 : decode cX8_fault 53 = .ok (.ifCond .eq 97, 3) := by decide +kernel
theorem dX8_fault_56 : decode cX8_fault 56 = .ok (.aload_n 0, 1) := by decide +kernel
theorem dX8_fault_57 : decode cX8_fault 57 = .ok (.getfield 28, 3) := by decide +kernel
theorem dX8_fault_60 : decode cX8_fault 60 = .ok (.aload_n 0, 1) := by decide +kernel
theorem dX8_fault_61 : decode cX8_fault 61 = .ok (.getfield 107, 3) := by decide +kernel
theorem dX8_fault_64 : decode cX8_fault 64 = .ok (.aload_n 0, 1) := by decide +kernel
theorem dX8_fault_65 : decode cX8_fault 65 = .ok (.getfield 25, 3) := by decide +kernel
theorem dX8_fault_68 : decode cX8_fault 68 = .ok (.iload_n 1, 1) := by decide +kernel
theorem dX8_fault_69 : decode cX8_fault 69 = .ok (.iaload, 1) := by decide +kernel
theorem dX8_fault_70 : decode cX8_fault 70 = .ok (.bipush 48, 2) := by decide +kernel
theorem dX8_fault_72 : decode cX8_fault 72 = .ok (.isub, 1) := by decide +kernel
theorem dX8_fault_73 : decode cX8_fault 73 = .ok (.iastore, 1) := by decide +kernel
theorem dX8_fault_74 : decode cX8_fault 74 = .ok (.iinc 1 1, 3) := by decide +kernel
theorem dX8_fault_77 : decode cX8_fault 77 = .ok (.aload_n 0, 1) := by decide +kernel
theorem dX8_fault_78 : decode cX8_fault 78 = .ok (.getfield 28, 3) := by decide +kernel
theorem dX8_fault_81 : decode cX8_fault 81 = .ok (.aload_n 0, 1) := by decide +kernel
theorem dX8_fault_82 : decode cX8_fault 82 = .ok (.getfield 107, 3) := by decide +kernel
theorem dX8_fault_85 : decode cX8_fault 85 = .ok (.iaload, 1) := by decide +kernel
theorem dX8_fault_86 : decode cX8_fault 86 = .ok (.ifCond .le 19, 3) := by decide +kernel
theorem dX8_fault_89 : decode cX8_fault 89 = .ok (.aload_n 0, 1) := by decide +kernel
theorem dX8_fault_90 : decode cX8_fault 90 = .ok (.iload_n 1, 1) := by decide +kernel
theorem dX8_fault_91 : decode cX8_fault 91 = .ok (.bipush 112, 2) := by decide +kernel
theorem dX8_fault_93 : decode cX8_fault 93 = .ok (.bipush 112, 2) := by decide +kernel
theorem dX8_fault_95 : decode cX8_fault 95 = .ok (.invokevirtual 103, 3) := by decide +kernel
theorem dX8_fault_98 : decode cX8_fault 98 = .ok (.ifCond .eq 7, 3) := by decide +kernel
theorem dX8_fault_101 : decode cX8_fault 101 = .ok (.iconst 1, 1) := by decide +kernel
theorem dX8_fault_102 : decode cX8_fault 102 = .ok (.goto 4, 3) := by decide +kernel
theorem dX8_fault_105 : decode cX8_fault 105 = .ok (.iconst 0, 1) := by decide +kernel
theorem dX8_fault_106 : decode cX8_fault 106 = .ok (.istore_n 2, 1) := by decide +kernel
theorem dX8_fault_107 : decode cX8_fault 107 = .ok (.aload_n 0, 1) := by decide +kernel
theorem dX8_fault_108 : decode cX8_fault 108 = .ok (.getfield 31, 3) := by decide +kernel
theorem dX8_fault_111 : decode cX8_fault 111 = .ok (.aload_n 0, 1) := by decide +kernel
theorem dX8_fault_112 : decode cX8_fault 112 = .ok (.getfield 107, 3) := by decide +kernel
theorem dX8_fault_115 : decode cX8_fault 115 = .ok (.iload_n 2, 1) := by decide +kernel
theorem dX8_fault_116 : decode cX8_fault 116 = .ok (.ifCond .eq 7, 3) := by decide +kernel
theorem dX8_fault_119 : decode cX8_fault 119 = .ok (.iconst 1, 1) := by decide +kernel
theorem dX8_fault_120 : decode cX8_fault 120 = .ok (.goto 4, 3) := by decide +kernel
theorem dX8_fault_123 : decode cX8_fault 123 = .ok (.iconst 0, 1) := by decide +kernel
theorem dX8_fault_124 : decode cX8_fault 124 = .ok (.iastore, 1) := by decide +kernel
theorem dX8_fault_125 : decode cX8_fault 125 = .ok (.iload_n 1, 1) := by decide +kernel
theorem dX8_fault_126 : decode cX8_fault 126 = .ok (.iload_n 2, 1) := by decide +kernel
theorem dX8_fault_127 : decode cX8_fault 127 = .ok (.ifCond .eq 7, 3) := by decide +kernel
theorem dX8_fault_130 : decode cX8_fault 130 = .ok (.iconst 1, 1) := by decide +kernel
theorem dX8_fault_131 : decode cX8_fault 131 = .ok (.goto 4, 3) := by decide +kernel
theorem dX8_fault_134 : decode cX8_fault 134 = .ok (.iconst 0, 1) := by decide +kernel
theorem dX8_fault_135 : decode cX8_fault 135 = .ok (.iadd, 1) := by decide +kernel
theorem dX8_fault_136 : decode cX8_fault 136 = .ok (.istore_n 1, 1) := by decide +kernel
theorem dX8_fault_137 : decode cX8_fault 137 = .ok (.aload_n 0, 1) := by decide +kernel
theorem dX8_fault_138 : decode cX8_fault 138 = .ok (.dup, 1) := by decide +kernel
theorem dX8_fault_139 : decode cX8_fault 139 = .ok (.getfield 107, 3) := by decide +kernel
theorem dX8_fault_142 : decode cX8_fault 142 = .ok (.iconst 1, 1) := by decide +kernel
theorem dX8_fault_143 : decode cX8_fault 143 = .ok (.iadd, 1) := by decide +kernel
theorem dX8_fault_144 : decode cX8_fault 144 = .ok (.putfield 107, 3) := by decide +kernel
theorem dX8_fault_147 : decode cX8_fault 147 = .ok (.goto (-112), 3) := by decide +kernel
theorem dX8_fault_150 : decode cX8_fault 150 = .ok (.aload_n 0, 1) := by decide +kernel
theorem dX8_fault_151 : decode cX8_fault 151 = .ok (.getfield 107, 3) := by decide +kernel
theorem dX8_fault_154 : decode cX8_fault 154 = .ok (.ifCond .le 16, 3) := by decide +kernel
theorem dX8_fault_157 : decode cX8_fault 157 = .ok (.iload_n 1, 1) := by decide +kernel
theorem dX8_fault_158 : decode cX8_fault 158 = .ok (.aload_n 0, 1) := by decide +kernel
theorem dX8_fault_159 : decode cX8_fault 159 = .ok (.getfield 87, 3) := by decide +kernel
theorem dX8_fault_162 : decode cX8_fault 162 = .ok (.if_icmp .ne 8, 3) := by decide +kernel
theorem dX8_fault_165 : decode cX8_fault 165 = .ok (.bipush (-6), 2) := by decide +kernel
theorem dX8_fault_167 : decode cX8_fault 167 = .ok (.goto 4, 3) := by decide +kernel
theorem dX8_fault_170 : decode cX8_fault 170 = .ok (.iload_n 1, 1) := by decide +kernel
theorem dX8_fault_171 : decode cX8_fault 171 = .ok (.ireturn, 1) := by decide +kernel
theorem dX8_read_0 : decode cX8_read 0 = .ok (.aload_n 0, 1) := by decide +kernel
theorem dX8_read_1 : decode cX8_read 1 = .ok (.invokevirtual 110, 3) := by decide +kernel
theorem dX8_read_4 : decode cX8_read 4 = .ok (.bipush (-6), 2) := by decide +kernel
theorem dX8_read_6 : decode cX8_read 6 = .ok (.if_icmp .eq 6, 3) := by decide +kernel
theorem dX8_read_9 : decode cX8_read 9 = .ok (.bipush (-3), 2) := by decide +kernel
theorem dX8_read_11 : decode cX8_read 11 = .ok (.ireturn, 1) := by decide +kernel
theorem dX8_read_12 : decode cX8_read 12 = .ok (.aload_n 0, 1) := by decide +kernel
theorem dX8_read_13 : decode cX8_read 13 = .ok (.invokevirtual 60, 3) := by decide +kernel
theorem dX8_read_16 : decode cX8_read 16 = .ok (.aload_n 0, 1) := by decide +kernel
theorem dX8_read_17 : decode cX8_read 17 = .ok (.getfield 25, 3) := by decide +kernel
theorem dX8_read_20 : decode cX8_read 20 = .ok (.iconst 0, 1) := by decide +kernel
theorem dX8_read_21 : decode cX8_read 21 = .ok (.iaload, 1) := by decide +kernel
theorem dX8_read_22 : decode cX8_read 22 = .ok (.bipush 48, 2) := by decide +kernel
theorem dX8_read_24 : decode cX8_read 24 = .ok (.isub, 1) := by decide +kernel
theorem dX8_read_25 : decode cX8_read 25 = .ok (.istore_n 1, 1) := by decide +kernel
theorem dX8_read_26 : decode cX8_read 26 = .ok (.iconst 0, 1) := by decide +kernel
theorem dX8_read_27 : decode cX8_read 27 = .ok (.istore_n 2, 1) := by decide +kernel
theorem dX8_read_28 : decode cX8_read 28 = .ok (.iload_n 2, 1) := by decide +kernel
theorem dX8_read_29 : decode cX8_read 29 = .ok (.aload_n 0, 1) := by decide +kernel
theorem dX8_read_30 : decode cX8_read 30 = .ok (.getfield 107, 3) := by decide +kernel
theorem dX8_read_33 : decode cX8_read 33 = .ok (.if_icmp .ge 49, 3) := by decide +kernel
theorem dX8_read_36 : decode cX8_read 36 = .ok (.aload_n 0, 1) := by decide +kernel
theorem dX8_read_37 : decode cX8_read 37 = .ok (.getfield 7, 3) := by decide +kernel
theorem dX8_read_40 : decode cX8_read 40 = .ok (.bipush 6, 2) := by decide +kernel
theorem dX8_read_42 : decode cX8_read 42 = .ok (.bipush 8, 2) := by decide +kernel
theorem dX8_read_44 : decode cX8_read 44 = .ok (.iload_n 1, 1) := by decide +kernel
theorem dX8_read_45 : decode cX8_read 45 = .ok (.imul, 1) := by decide +kernel
theorem dX8_read_46 : decode cX8_read 46 = .ok (.iadd, 1) := by decide +kernel
theorem dX8_read_47 : decode cX8_read 47 = .ok (.iload_n 2, 1) := by decide +kernel
theorem dX8_read_48 : decode cX8_read 48 = .ok (.iadd, 1) := by decide +kernel
theorem dX8_read_49 : decode cX8_read 49 = .ok (.aload_n 0, 1) := by decide +kernel
theorem dX8_read_50 : decode cX8_read 50 = .ok (.getfield 28, 3) := by decide +kernel
theorem dX8_read_53 : decode cX8_read 53 = .ok (.iload_n 2, 1) := by decide +kernel
theorem dX8_read_54 : decode cX8_read 54 = .ok (.iaload, 1) := by decide +kernel
theorem dX8_read_55 : decode cX8_read 55 = .ok (.iastore, 1) := by decide +kernel
theorem dX8_read_56 : decode cX8_read 56 = .ok (.aload_n 0, 1) := by decide +kernel
theorem dX8_read_57 : decode cX8_read 57 = .ok (.getfield 7, 3) := by decide +kernel
theorem dX8_read_60 : decode cX8_read 60 = .ok (.bipush 22, 2) := by decide +kernel
theorem dX8_read_62 : decode cX8_read 62 = .ok (.bipush 8, 2) := by decide +kernel
theorem dX8_read_64 : decode cX8_read 64 = .ok (.iload_n 1, 1) := by decide +kernel
theorem dX8_read_65 : decode cX8_read 65 = .ok (.imul, 1) := by decide +kernel
theorem dX8_read_66 : decode cX8_read 66 = .ok (.iadd, 1) := by decide +kernel
theorem dX8_read_67 : decode cX8_read 67 = .ok (.iload_n 2, 1) := by decide +kernel
theorem dX8_read_68 : decode cX8_read 68 = .ok (.iadd, 1) := by decide +kernel
theorem dX8_read_69 : decode cX8_read 69 = .ok (.aload_n 0, 1) := by decide +kernel
theorem dX8_read_70 : decode cX8_read 70 = .ok (.getfield 31, 3) := by decide +kernel
theorem dX8_read_73 : decode cX8_read 73 = .ok (.iload_n 2, 1) := by decide +kernel
theorem dX8_read_74 : decode cX8_read 74 = .ok (.iaload, 1) := by decide +kernel
theorem dX8_read_75 : decode cX8_read 75 = .ok (.iastore, 1) := by decide +kernel
theorem dX8_read_76 : decode cX8_read 76 = .ok (.iinc 2 1, 3) := by decide +kernel
theorem dX8_read_79 : decode cX8_read 79 = .ok (.goto (-51), 3) := by decide +kernel
theorem dX8_read_82 : decode cX8_read 82 = .ok (.aload_n 0, 1) := by decide +kernel
theorem dX8_read_83 : decode cX8_read 83 = .ok (.getfield 7, 3) := by decide +kernel
theorem dX8_read_86 : decode cX8_read 86 = .ok (.iconst 4, 1) := by decide +kernel
theorem dX8_read_87 : decode cX8_read 87 = .ok (.iload_n 1, 1) := by decide +kernel
theorem dX8_read_88 : decode cX8_read 88 = .ok (.iadd, 1) := by decide +kernel
theorem dX8_read_89 : decode cX8_read 89 = .ok (.aload_n 0, 1) := by decide +kernel
theorem dX8_read_90 : decode cX8_read 90 = .ok (.getfield 107, 3) := by decide +kernel
theorem dX8_read_93 : decode cX8_read 93 = .ok (.iastore, 1) := by decide +kernel
theorem dX8_read_94 : decode cX8_read 94 = .ok (.aload_n 0, 1) := by decide +kernel
theorem dX8_read_95 : decode cX8_read 95 = .ok (.getfield 7, 3) := by decide +kernel
theorem dX8_read_98 : decode cX8_read 98 = .ok (.iconst 2, 1) := by decide +kernel
theorem dX8_read_99 : decode cX8_read 99 = .ok (.iload_n 1, 1) := by decide +kernel
theorem dX8_read_100 : decode cX8_read 100 = .ok (.iadd, 1) := by decide +kernel
theorem dX8_read_101 : decode cX8_read 101 = .ok (.iconst 0, 1) := by decide +kernel
theorem dX8_read_102 : decode cX8_read 102 = .ok (.iastore, 1) := by decide +kernel
theorem dX8_read_103 : decode cX8_read 103 = .ok (.aload_n 0, 1) := by decide +kernel
theorem dX8_read_104 : decode cX8_read 104 = .ok (.iconst 0, 1) := by decide +kernel
theorem dX8_read_105 : decode cX8_read 105 = .ok (.putfield 87, 3) := by decide +kernel
theorem dX8_read_108 : decode cX8_read 108 = .ok (.aload_n 0, 1) := by decide +kernel
theorem dX8_read_109 : decode cX8_read 109 = .ok (.iload_n 1, 1) := by decide +kernel
theorem dX8_read_110 : decode cX8_read 110 = .ok (.invokevirtual 67, 3) := by decide +kernel
theorem dX8_read_113 : decode cX8_read 113 = .ok (.ireturn, 1) := by decide +kernel
theorem dX8_readsPattern_0 : decode cX8_readsPattern 0 = .ok (.aload_n 0, 1) := by decide +kernel
theorem dX8_readsPattern_1 : decode cX8_readsPattern 1 = .ok (.aload_n 0, 1) := by decide +kernel
theorem dX8_readsPattern_2 : decode cX8_readsPattern 2 = .ok (.getfield 87, 3) := by decide +kernel
theorem dX8_readsPattern_5 : decode cX8_readsPattern 5 = .ok (.putfield 113, 3) := by decide +kernel
theorem dX8_readsPattern_8 : decode cX8_readsPattern 8 = .ok (.aload_n 0, 1) := by decide +kernel
theorem dX8_readsPattern_9 : decode cX8_readsPattern 9 = .ok (.getfield 87, 3) := by decide +kernel
theorem dX8_readsPattern_12 : decode cX8_readsPattern 12 = .ok (.i2l, 1) := by decide +kernel
theorem dX8_readsPattern_13 : decode cX8_readsPattern 13 = .ok (.lconst 1, 1) := by decide +kernel
theorem dX8_readsPattern_14 : decode cX8_readsPattern 14 = .ok (.ldc2_w 58, 3) := by decide +kernel
theorem dX8_readsPattern_17 : decode cX8_readsPattern 17 = .ok (.invokestatic 44, 3) := by decide +kernel
theorem dX8_readsPattern_20 : decode cX8_readsPattern 20 = .ok (.istore_n 1, 1) := by decide +kernel
theorem dX8_readsPattern_21 : decode cX8_readsPattern 21 = .ok (.iconst 0, 1) := by decide +kernel
theorem dX8_readsPattern_22 : decode cX8_readsPattern 22 = .ok (.istore_n 2, 1) := by decide +kernel
theorem dX8_readsPattern_23 : decode cX8_readsPattern 23 = .ok (.iload_n 2, 1) := by decide +kernel
theorem dX8_readsPattern_24 : decode cX8_readsPattern 24 = .ok (.aload_n 0, 1) := by decide +kernel
theorem dX8_readsPattern_25 : decode cX8_readsPattern 25 = .ok (.getfield 87, 3) := by decide +kernel
theorem dX8_readsPattern_28 : decode cX8_readsPattern 28 = .ok (.if_icmp .ge 38, 3) := by decide +kernel
theorem dX8_readsPattern_31 : decode cX8_readsPattern 31 = .ok (.iload_n 1, 1) := by decide +kernel
theorem dX8_readsPattern_32 : decode cX8_readsPattern 32 = .ok (.ifCond .eq 34, 3) := by decide +kernel
theorem dX8_readsPattern_35 : decode cX8_readsPattern 35 = .ok (.aload_n 0, 1) := by decide +kernel
theorem dX8_readsPattern_36 : decode cX8_readsPattern 36 = .ok (.iload_n 2, 1) := by decide +kernel
theorem dX8_readsPattern_37 : decode cX8_readsPattern 37 = .ok (.bipush 48, 2) := by decide +kernel
theorem dX8_readsPattern_39 : decode cX8_readsPattern 39 = .ok (.bipush 55, 2) := by decide +kernel
theorem dX8_readsPattern_41 : decode cX8_readsPattern 41 = .ok (.invokevirtual 103, 3) := by decide +kernel
theorem dX8_readsPattern_44 : decode cX8_readsPattern 44 = .ok (.istore_n 1, 1) := by decide +kernel
theorem dX8_readsPattern_45 : decode cX8_readsPattern 45 = .ok (.aload_n 0, 1) := by decide +kernel
theorem dX8_readsPattern_46 : decode cX8_readsPattern 46 = .ok (.getfield 34, 3) := by decide +kernel
theorem dX8_readsPattern_49 : decode cX8_readsPattern 49 = .ok (.iload_n 2, 1) := by decide +kernel
theorem dX8_readsPattern_50 : decode cX8_readsPattern 50 = .ok (.aload_n 0, 1) := by decide +kernel
theorem dX8_readsPattern_51 : decode cX8_readsPattern 51 = .ok (.getfield 25, 3) := by decide +kernel
theorem dX8_readsPattern_54 : decode cX8_readsPattern 54 = .ok (.iload_n 2, 1) := by decide +kernel
theorem dX8_readsPattern_55 : decode cX8_readsPattern 55 = .ok (.iaload, 1) := by decide +kernel
theorem dX8_readsPattern_56 : decode cX8_readsPattern 56 = .ok (.bipush 48, 2) := by decide +kernel
theorem dX8_readsPattern_58 : decode cX8_readsPattern 58 = .ok (.isub, 1) := by decide +kernel
theorem dX8_readsPattern_59 : decode cX8_readsPattern 59 = .ok (.iastore, 1) := by decide +kernel
theorem dX8_readsPattern_60 : decode cX8_readsPattern 60 = .ok (.iinc 2 1, 3) := by decide +kernel
theorem dX8_readsPattern_63 : decode cX8_readsPattern 63 = .ok (.goto (-40), 3) := by decide +kernel
theorem dX8_readsPattern_66 : decode cX8_readsPattern 66 = .ok (.iload_n 1, 1) := by decide +kernel
theorem dX8_readsPattern_67 : decode cX8_readsPattern 67 = .ok (.ireturn, 1) := by decide +kernel
theorem dX8_lands_0 : decode cX8_lands 0 = .ok (.iload_n 1, 1) := by decide +kernel
theorem dX8_lands_1 : decode cX8_lands 1 = .ok (.aload_n 0, 1) := by decide +kernel
theorem dX8_lands_2 : decode cX8_lands 2 = .ok (.getfield 34, 3) := by decide +kernel
theorem dX8_lands_5 : decode cX8_lands 5 = .ok (.iload_n 1, 1) := by decide +kernel
theorem dX8_lands_6 : decode cX8_lands 6 = .ok (.iaload, 1) := by decide +kernel
theorem dX8_lands_7 : decode cX8_lands 7 = .ok (.iadd, 1) := by decide +kernel
theorem dX8_lands_8 : decode cX8_lands 8 = .ok (.aload_n 0, 1) := by decide +kernel
theorem dX8_lands_9 : decode cX8_lands 9 = .ok (.getfield 113, 3) := by decide +kernel
theorem dX8_lands_12 : decode cX8_lands 12 = .ok (.irem, 1) := by decide +kernel
theorem dX8_lands_13 : decode cX8_lands 13 = .ok (.ireturn, 1) := by decide +kernel
theorem dX8_isSound_0 : decode cX8_isSound 0 = .ok (.iconst 0, 1) := by decide +kernel
theorem dX8_isSound_1 : decode cX8_isSound 1 = .ok (.istore_n 1, 1) := by decide +kernel
theorem dX8_isSound_2 : decode cX8_isSound 2 = .ok (.iconst 0, 1) := by decide +kernel
theorem dX8_isSound_3 : decode cX8_isSound 3 = .ok (.istore_n 2, 1) := by decide +kernel
theorem dX8_isSound_4 : decode cX8_isSound 4 = .ok (.iload_n 2, 1) := by decide +kernel
theorem dX8_isSound_5 : decode cX8_isSound 5 = .ok (.aload_n 0, 1) := by decide +kernel
theorem dX8_isSound_6 : decode cX8_isSound 6 = .ok (.getfield 113, 3) := by decide +kernel
theorem dX8_isSound_9 : decode cX8_isSound 9 = .ok (.if_icmp .ge 19, 3) := by decide +kernel
theorem dX8_isSound_12 : decode cX8_isSound 12 = .ok (.iload_n 1, 1) := by decide +kernel
theorem dX8_isSound_13 : decode cX8_isSound 13 = .ok (.iconst 1, 1) := by decide +kernel
theorem dX8_isSound_14 : decode cX8_isSound 14 = .ok (.aload_n 0, 1) := by decide +kernel
theorem dX8_isSound_15 : decode cX8_isSound 15 = .ok (.iload_n 2, 1) := by decide +kernel
theorem dX8_isSound_16 : decode cX8_isSound 16 = .ok (.invokevirtual 116, 3) := by decide +kernel
theorem dX8_isSound_19 : decode cX8_isSound 19 = .ok (.ishl, 1) := by decide +kernel
theorem dX8_isSound_20 : decode cX8_isSound 20 = .ok (.ior, 1) := by decide +kernel
theorem dX8_isSound_21 : decode cX8_isSound 21 = .ok (.istore_n 1, 1) := by decide +kernel
theorem dX8_isSound_22 : decode cX8_isSound 22 = .ok (.iinc 2 1, 3) := by decide +kernel
theorem dX8_isSound_25 : decode cX8_isSound 25 = .ok (.goto (-21), 3) := by decide +kernel
theorem dX8_isSound_28 : decode cX8_isSound 28 = .ok (.iload_n 1, 1) := by decide +kernel
theorem dX8_isSound_29 : decode cX8_isSound 29 = .ok (.iconst 1, 1) := by decide +kernel
theorem dX8_isSound_30 : decode cX8_isSound 30 = .ok (.aload_n 0, 1) := by decide +kernel
theorem dX8_isSound_31 : decode cX8_isSound 31 = .ok (.getfield 113, 3) := by decide +kernel
theorem dX8_isSound_34 : decode cX8_isSound 34 = .ok (.ishl, 1) := by decide +kernel
theorem dX8_isSound_35 : decode cX8_isSound 35 = .ok (.iconst 1, 1) := by decide +kernel
theorem dX8_isSound_36 : decode cX8_isSound 36 = .ok (.isub, 1) := by decide +kernel
theorem dX8_isSound_37 : decode cX8_isSound 37 = .ok (.if_icmp .ne 7, 3) := by decide +kernel
theorem dX8_isSound_40 : decode cX8_isSound 40 = .ok (.iconst 1, 1) := by decide +kernel
theorem dX8_isSound_41 : decode cX8_isSound 41 = .ok (.goto 4, 3) := by decide +kernel
theorem dX8_isSound_44 : decode cX8_isSound 44 = .ok (.iconst 0, 1) := by decide +kernel
theorem dX8_isSound_45 : decode cX8_isSound 45 = .ok (.ireturn, 1) := by decide +kernel
theorem dX8_sumOfHeights_0 : decode cX8_sumOfHeights 0 = .ok (.iconst 0, 1) := by decide +kernel
theorem dX8_sumOfHeights_1 : decode cX8_sumOfHeights 1 = .ok (.istore_n 1, 1) := by decide +kernel
theorem dX8_sumOfHeights_2 : decode cX8_sumOfHeights 2 = .ok (.iconst 0, 1) := by decide +kernel
theorem dX8_sumOfHeights_3 : decode cX8_sumOfHeights 3 = .ok (.istore_n 2, 1) := by decide +kernel
theorem dX8_sumOfHeights_4 : decode cX8_sumOfHeights 4 = .ok (.iload_n 2, 1) := by decide +kernel
theorem dX8_sumOfHeights_5 : decode cX8_sumOfHeights 5 = .ok (.aload_n 0, 1) := by decide +kernel
theorem dX8_sumOfHeights_6 : decode cX8_sumOfHeights 6 = .ok (.getfield 113, 3) := by decide +kernel
theorem dX8_sumOfHeights_9 : decode cX8_sumOfHeights 9 = .ok (.if_icmp .ge 18, 3) := by decide +kernel
theorem dX8_sumOfHeights_12 : decode cX8_sumOfHeights 12 = .ok (.iload_n 1, 1) := by decide +kernel
theorem dX8_sumOfHeights_13 : decode cX8_sumOfHeights 13 = .ok (.aload_n 0, 1) := by decide +kernel
theorem dX8_sumOfHeights_14 : decode cX8_sumOfHeights 14 = .ok (.getfield 34, 3) := by decide +kernel
theorem dX8_sumOfHeights_17 : decode cX8_sumOfHeights 17 = .ok (.iload_n 2, 1) := by decide +kernel
theorem dX8_sumOfHeights_18 : decode cX8_sumOfHeights 18 = .ok (.iaload, 1) := by decide +kernel
theorem dX8_sumOfHeights_19 : decode cX8_sumOfHeights 19 = .ok (.iadd, 1) := by decide +kernel
theorem dX8_sumOfHeights_20 : decode cX8_sumOfHeights 20 = .ok (.istore_n 1, 1) := by decide +kernel
theorem dX8_sumOfHeights_21 : decode cX8_sumOfHeights 21 = .ok (.iinc 2 1, 3) := by decide +kernel
theorem dX8_sumOfHeights_24 : decode cX8_sumOfHeights 24 = .ok (.goto (-20), 3) := by decide +kernel
theorem dX8_sumOfHeights_27 : decode cX8_sumOfHeights 27 = .ok (.iload_n 1, 1) := by decide +kernel
theorem dX8_sumOfHeights_28 : decode cX8_sumOfHeights 28 = .ok (.ireturn, 1) := by decide +kernel
theorem dX8_startOf_0 : decode cX8_startOf 0 = .ok (.iconst 0, 1) := by decide +kernel
theorem dX8_startOf_1 : decode cX8_startOf 1 = .ok (.istore_n 1, 1) := by decide +kernel
theorem dX8_startOf_2 : decode cX8_startOf 2 = .ok (.iconst 1, 1) := by decide +kernel
theorem dX8_startOf_3 : decode cX8_startOf 3 = .ok (.istore_n 2, 1) := by decide +kernel
theorem dX8_startOf_4 : decode cX8_startOf 4 = .ok (.iload_n 2, 1) := by decide +kernel
theorem dX8_startOf_5 : decode cX8_startOf 5 = .ok (.bipush 7, 2) := by decide +kernel
theorem dX8_startOf_7 : decode cX8_startOf 7 = .ok (.if_icmp .gt 51, 3) := by decide +kernel
theorem dX8_startOf_10 : decode cX8_startOf 10 = .ok (.bipush 8, 2) := by decide +kernel
theorem dX8_startOf_12 : decode cX8_startOf 12 = .ok (.aload_n 0, 1) := by decide +kernel
theorem dX8_startOf_13 : decode cX8_startOf 13 = .ok (.getfield 113, 3) := by decide +kernel
theorem dX8_startOf_16 : decode cX8_startOf 16 = .ok (.imul, 1) := by decide +kernel
theorem dX8_startOf_17 : decode cX8_startOf 17 = .ok (.iload_n 2, 1) := by decide +kernel
theorem dX8_startOf_18 : decode cX8_startOf 18 = .ok (.isub, 1) := by decide +kernel
theorem dX8_startOf_19 : decode cX8_startOf 19 = .ok (.aload_n 0, 1) := by decide +kernel
theorem dX8_startOf_20 : decode cX8_startOf 20 = .ok (.getfield 113, 3) := by decide +kernel
theorem dX8_startOf_23 : decode cX8_startOf 23 = .ok (.irem, 1) := by decide +kernel
theorem dX8_startOf_24 : decode cX8_startOf 24 = .ok (.istore_n 3, 1) := by decide +kernel
theorem dX8_startOf_25 : decode cX8_startOf 25 = .ok (.iload_n 1, 1) := by decide +kernel
theorem dX8_startOf_26 : decode cX8_startOf 26 = .ok (.aload_n 0, 1) := by decide +kernel
theorem dX8_startOf_27 : decode cX8_startOf 27 = .ok (.getfield 34, 3) := by decide +kernel
theorem dX8_startOf_30 : decode cX8_startOf 30 = .ok (.iload_n 3, 1) := by decide +kernel
theorem dX8_startOf_31 : decode cX8_startOf 31 = .ok (.iaload, 1) := by decide +kernel
theorem dX8_startOf_32 : decode cX8_startOf 32 = .ok (.iload_n 2, 1) := by decide +kernel
theorem dX8_startOf_33 : decode cX8_startOf 33 = .ok (.if_icmp .lt 16, 3) := by decide +kernel
theorem dX8_startOf_36 : decode cX8_startOf 36 = .ok (.iconst 1, 1) := by decide +kernel
theorem dX8_startOf_37 : decode cX8_startOf 37 = .ok (.aload_n 0, 1) := by decide +kernel
theorem dX8_startOf_38 : decode cX8_startOf 38 = .ok (.getfield 34, 3) := by decide +kernel
theorem dX8_startOf_41 : decode cX8_startOf 41 = .ok (.iload_n 3, 1) := by decide +kernel
theorem dX8_startOf_42 : decode cX8_startOf 42 = .ok (.iaload, 1) := by decide +kernel
theorem dX8_startOf_43 : decode cX8_startOf 43 = .ok (.iload_n 2, 1) := by decide +kernel
theorem dX8_startOf_44 : decode cX8_startOf 44 = .ok (.isub, 1) := by decide +kernel
theorem dX8_startOf_45 : decode cX8_startOf 45 = .ok (.ishl, 1) := by decide +kernel
theorem dX8_startOf_46 : decode cX8_startOf 46 = .ok (.goto 4, 3) := by decide +kernel
theorem dX8_startOf_49 : decode cX8_startOf 49 = .ok (.iconst 0, 1) := by decide +kernel
theorem dX8_startOf_50 : decode cX8_startOf 50 = .ok (.ior, 1) := by decide +kernel
theorem dX8_startOf_51 : decode cX8_startOf 51 = .ok (.istore_n 1, 1) := by decide +kernel
theorem dX8_startOf_52 : decode cX8_startOf 52 = .ok (.iinc 2 1, 3) := by decide +kernel
theorem dX8_startOf_55 : decode cX8_startOf 55 = .ok (.goto (-51), 3) := by decide +kernel
theorem dX8_startOf_58 : decode cX8_startOf 58 = .ok (.iload_n 1, 1) := by decide +kernel
theorem dX8_startOf_59 : decode cX8_startOf 59 = .ok (.ireturn, 1) := by decide +kernel
theorem dX8_orbitOf_0 : decode cX8_orbitOf 0 = .ok (.aload_n 0, 1) := by decide +kernel
theorem dX8_orbitOf_1 : decode cX8_orbitOf 1 = .ok (.getfield 34, 3) := by decide +kernel
theorem dX8_orbitOf_4 : decode cX8_orbitOf 4 = .ok (.iload_n 1, 1) := by decide +kernel
theorem dX8_orbitOf_5 : decode cX8_orbitOf 5 = .ok (.iaload, 1) := by decide +kernel
theorem dX8_orbitOf_6 : decode cX8_orbitOf 6 = .ok (.ifCond .ne 5, 3) := by decide +kernel
theorem dX8_orbitOf_9 : decode cX8_orbitOf 9 = .ok (.iconst 0, 1) := by decide +kernel
theorem dX8_orbitOf_10 : decode cX8_orbitOf 10 = .ok (.ireturn, 1) := by decide +kernel
theorem dX8_orbitOf_11 : decode cX8_orbitOf 11 = .ok (.iconst 0, 1) := by decide +kernel
theorem dX8_orbitOf_12 : decode cX8_orbitOf 12 = .ok (.istore_n 2, 1) := by decide +kernel
theorem dX8_orbitOf_13 : decode cX8_orbitOf 13 = .ok (.iload_n 1, 1) := by decide +kernel
theorem dX8_orbitOf_14 : decode cX8_orbitOf 14 = .ok (.istore_n 3, 1) := by decide +kernel
theorem dX8_orbitOf_15 : decode cX8_orbitOf 15 = .ok (.iload_n 2, 1) := by decide +kernel
theorem dX8_orbitOf_16 : decode cX8_orbitOf 16 = .ok (.iload_n 3, 1) := by decide +kernel
theorem dX8_orbitOf_17 : decode cX8_orbitOf 17 = .ok (.ishr, 1) := by decide +kernel
theorem dX8_orbitOf_18 : decode cX8_orbitOf 18 = .ok (.iconst 1, 1) := by decide +kernel
theorem dX8_orbitOf_19 : decode cX8_orbitOf 19 = .ok (.iand, 1) := by decide +kernel
theorem dX8_orbitOf_20 : decode cX8_orbitOf 20 = .ok (.ifCond .ne 18, 3) := by decide +kernel
theorem dX8_orbitOf_23 : decode cX8_orbitOf 23 = .ok (.iload_n 2, 1) := by decide +kernel
theorem dX8_orbitOf_24 : decode cX8_orbitOf 24 = .ok (.iconst 1, 1) := by decide +kernel
theorem dX8_orbitOf_25 : decode cX8_orbitOf 25 = .ok (.iload_n 3, 1) := by decide +kernel
theorem dX8_orbitOf_26 : decode cX8_orbitOf 26 = .ok (.ishl, 1) := by decide +kernel
theorem dX8_orbitOf_27 : decode cX8_orbitOf 27 = .ok (.ior, 1) := by decide +kernel
theorem dX8_orbitOf_28 : decode cX8_orbitOf 28 = .ok (.istore_n 2, 1) := by decide +kernel
theorem dX8_orbitOf_29 : decode cX8_orbitOf 29 = .ok (.aload_n 0, 1) := by decide +kernel
theorem dX8_orbitOf_30 : decode cX8_orbitOf 30 = .ok (.iload_n 3, 1) := by decide +kernel
theorem dX8_orbitOf_31 : decode cX8_orbitOf 31 = .ok (.invokevirtual 116, 3) := by decide +kernel
theorem dX8_orbitOf_34 : decode cX8_orbitOf 34 = .ok (.istore_n 3, 1) := by decide +kernel
theorem dX8_orbitOf_35 : decode cX8_orbitOf 35 = .ok (.goto (-20), 3) := by decide +kernel
theorem dX8_orbitOf_38 : decode cX8_orbitOf 38 = .ok (.iload_n 2, 1) := by decide +kernel
theorem dX8_orbitOf_39 : decode cX8_orbitOf 39 = .ok (.ireturn, 1) := by decide +kernel
theorem dX8_orbits_0 : decode cX8_orbits 0 = .ok (.iconst 0, 1) := by decide +kernel
theorem dX8_orbits_1 : decode cX8_orbits 1 = .ok (.istore_n 1, 1) := by decide +kernel
theorem dX8_orbits_2 : decode cX8_orbits 2 = .ok (.iconst 0, 1) := by decide +kernel
theorem dX8_orbits_3 : decode cX8_orbits 3 = .ok (.istore_n 2, 1) := by decide +kernel
theorem dX8_orbits_4 : decode cX8_orbits 4 = .ok (.iload_n 2, 1) := by decide +kernel
theorem dX8_orbits_5 : decode cX8_orbits 5 = .ok (.aload_n 0, 1) := by decide +kernel
theorem dX8_orbits_6 : decode cX8_orbits 6 = .ok (.getfield 113, 3) := by decide +kernel
theorem dX8_orbits_9 : decode cX8_orbits 9 = .ok (.if_icmp .ge 37, 3) := by decide +kernel
theorem dX8_orbits_12 : decode cX8_orbits 12 = .ok (.aload_n 0, 1) := by decide +kernel
theorem dX8_orbits_13 : decode cX8_orbits 13 = .ok (.iload_n 2, 1) := by decide +kernel
theorem dX8_orbits_14 : decode cX8_orbits 14 = .ok (.invokevirtual 119, 3) := by decide +kernel
theorem dX8_orbits_17 : decode cX8_orbits 17 = .ok (.istore_n 3, 1) := by decide +kernel
theorem dX8_orbits_18 : decode cX8_orbits 18 = .ok (.iload_n 1, 1) := by decide +kernel
theorem dX8_orbits_19 : decode cX8_orbits 19 = .ok (.iload_n 3, 1) := by decide +kernel
theorem dX8_orbits_20 : decode cX8_orbits 20 = .ok (.ifCond .eq 17, 3) := by decide +kernel
theorem dX8_orbits_23 : decode cX8_orbits 23 = .ok (.iload_n 3, 1) := by decide +kernel
theorem dX8_orbits_24 : decode cX8_orbits 24 = .ok (.iconst 1, 1) := by decide +kernel
theorem dX8_orbits_25 : decode cX8_orbits 25 = .ok (.iload_n 2, 1) := by decide +kernel
theorem dX8_orbits_26 : decode cX8_orbits 26 = .ok (.ishl, 1) := by decide +kernel
theorem dX8_orbits_27 : decode cX8_orbits 27 = .ok (.iconst 1, 1) := by decide +kernel
theorem dX8_orbits_28 : decode cX8_orbits 28 = .ok (.isub, 1) := by decide +kernel
theorem dX8_orbits_29 : decode cX8_orbits 29 = .ok (.iand, 1) := by decide +kernel
theorem dX8_orbits_30 : decode cX8_orbits 30 = .ok (.ifCond .ne 7, 3) := by decide +kernel
theorem dX8_orbits_33 : decode cX8_orbits 33 = .ok (.iconst 1, 1) := by decide +kernel
theorem dX8_orbits_34 : decode cX8_orbits 34 = .ok (.goto 4, 3) := by decide +kernel
theorem dX8_orbits_37 : decode cX8_orbits 37 = .ok (.iconst 0, 1) := by decide +kernel
theorem dX8_orbits_38 : decode cX8_orbits 38 = .ok (.iadd, 1) := by decide +kernel
theorem dX8_orbits_39 : decode cX8_orbits 39 = .ok (.istore_n 1, 1) := by decide +kernel
theorem dX8_orbits_40 : decode cX8_orbits 40 = .ok (.iinc 2 1, 3) := by decide +kernel
theorem dX8_orbits_43 : decode cX8_orbits 43 = .ok (.goto (-39), 3) := by decide +kernel
theorem dX8_orbits_46 : decode cX8_orbits 46 = .ok (.iload_n 1, 1) := by decide +kernel
theorem dX8_orbits_47 : decode cX8_orbits 47 = .ok (.ireturn, 1) := by decide +kernel
theorem dX8_comesAgain_0 : decode cX8_comesAgain 0 = .ok (.aload_n 0, 1) := by decide +kernel
theorem dX8_comesAgain_1 : decode cX8_comesAgain 1 = .ok (.getfield 113, 3) := by decide +kernel
theorem dX8_comesAgain_4 : decode cX8_comesAgain 4 = .ok (.iload_n 1, 1) := by decide +kernel
theorem dX8_comesAgain_5 : decode cX8_comesAgain 5 = .ok (.irem, 1) := by decide +kernel
theorem dX8_comesAgain_6 : decode cX8_comesAgain 6 = .ok (.ifCond .ne 7, 3) := by decide +kernel
theorem dX8_comesAgain_9 : decode cX8_comesAgain 9 = .ok (.iconst 1, 1) := by decide +kernel
theorem dX8_comesAgain_10 : decode cX8_comesAgain 10 = .ok (.goto 4, 3) := by decide +kernel
theorem dX8_comesAgain_13 : decode cX8_comesAgain 13 = .ok (.iconst 0, 1) := by decide +kernel
theorem dX8_comesAgain_14 : decode cX8_comesAgain 14 = .ok (.istore_n 2, 1) := by decide +kernel
theorem dX8_comesAgain_15 : decode cX8_comesAgain 15 = .ok (.iload_n 1, 1) := by decide +kernel
theorem dX8_comesAgain_16 : decode cX8_comesAgain 16 = .ok (.istore_n 3, 1) := by decide +kernel
theorem dX8_comesAgain_17 : decode cX8_comesAgain 17 = .ok (.iload_n 3, 1) := by decide +kernel
theorem dX8_comesAgain_18 : decode cX8_comesAgain 18 = .ok (.aload_n 0, 1) := by decide +kernel
theorem dX8_comesAgain_19 : decode cX8_comesAgain 19 = .ok (.getfield 113, 3) := by decide +kernel
theorem dX8_comesAgain_22 : decode cX8_comesAgain 22 = .ok (.if_icmp .ge 36, 3) := by decide +kernel
theorem dX8_comesAgain_25 : decode cX8_comesAgain 25 = .ok (.iload_n 2, 1) := by decide +kernel
theorem dX8_comesAgain_26 : decode cX8_comesAgain 26 = .ok (.ifCond .eq 24, 3) := by decide +kernel
theorem dX8_comesAgain_29 : decode cX8_comesAgain 29 = .ok (.aload_n 0, 1) := by decide +kernel
theorem dX8_comesAgain_30 : decode cX8_comesAgain 30 = .ok (.getfield 34, 3) := by decide +kernel
theorem dX8_comesAgain_33 : decode cX8_comesAgain 33 = .ok (.iload_n 3, 1) := by decide +kernel
theorem dX8_comesAgain_34 : decode cX8_comesAgain 34 = .ok (.iaload, 1) := by decide +kernel
theorem dX8_comesAgain_35 : decode cX8_comesAgain 35 = .ok (.aload_n 0, 1) := by decide +kernel
theorem dX8_comesAgain_36 : decode cX8_comesAgain 36 = .ok (.getfield 34, 3) := by decide +kernel
theorem dX8_comesAgain_39 : decode cX8_comesAgain 39 = .ok (.iload_n 3, 1) := by decide +kernel
theorem dX8_comesAgain_40 : decode cX8_comesAgain 40 = .ok (.iload_n 1, 1) := by decide +kernel
theorem dX8_comesAgain_41 : decode cX8_comesAgain 41 = .ok (.isub, 1) := by decide +kernel
theorem dX8_comesAgain_42 : decode cX8_comesAgain 42 = .ok (.iaload, 1) := by decide +kernel
theorem dX8_comesAgain_43 : decode cX8_comesAgain 43 = .ok (.if_icmp .ne 7, 3) := by decide +kernel
theorem dX8_comesAgain_46 : decode cX8_comesAgain 46 = .ok (.iconst 1, 1) := by decide +kernel
theorem dX8_comesAgain_47 : decode cX8_comesAgain 47 = .ok (.goto 4, 3) := by decide +kernel
theorem dX8_comesAgain_50 : decode cX8_comesAgain 50 = .ok (.iconst 0, 1) := by decide +kernel
theorem dX8_comesAgain_51 : decode cX8_comesAgain 51 = .ok (.istore_n 2, 1) := by decide +kernel
theorem dX8_comesAgain_52 : decode cX8_comesAgain 52 = .ok (.iinc 3 1, 3) := by decide +kernel
theorem dX8_comesAgain_55 : decode cX8_comesAgain 55 = .ok (.goto (-38), 3) := by decide +kernel
theorem dX8_comesAgain_58 : decode cX8_comesAgain 58 = .ok (.iload_n 2, 1) := by decide +kernel
theorem dX8_comesAgain_59 : decode cX8_comesAgain 59 = .ok (.ireturn, 1) := by decide +kernel
theorem dX8_period_0 : decode cX8_period 0 = .ok (.iconst 1, 1) := by decide +kernel
theorem dX8_period_1 : decode cX8_period 1 = .ok (.istore_n 1, 1) := by decide +kernel
theorem dX8_period_2 : decode cX8_period 2 = .ok (.aload_n 0, 1) := by decide +kernel
theorem dX8_period_3 : decode cX8_period 3 = .ok (.iload_n 1, 1) := by decide +kernel
theorem dX8_period_4 : decode cX8_period 4 = .ok (.invokevirtual 122, 3) := by decide +kernel
theorem dX8_period_7 : decode cX8_period 7 = .ok (.ifCond .ne 9, 3) := by decide +kernel
theorem dX8_period_10 : decode cX8_period 10 = .ok (.iinc 1 1, 3) := by decide +kernel
theorem dX8_period_13 : decode cX8_period 13 = .ok (.goto (-11), 3) := by decide +kernel
theorem dX8_period_16 : decode cX8_period 16 = .ok (.iload_n 1, 1) := by decide +kernel
theorem dX8_period_17 : decode cX8_period 17 = .ok (.ireturn, 1) := by decide +kernel
theorem dX8_told_0 : decode cX8_told 0 = .ok (.aload_n 0, 1) := by decide +kernel
theorem dX8_told_1 : decode cX8_told 1 = .ok (.invokevirtual 125, 3) := by decide +kernel
theorem dX8_told_4 : decode cX8_told 4 = .ok (.aload_n 0, 1) := by decide +kernel
theorem dX8_told_5 : decode cX8_told 5 = .ok (.getfield 113, 3) := by decide +kernel
theorem dX8_told_8 : decode cX8_told 8 = .ok (.idiv, 1) := by decide +kernel
theorem dX8_told_9 : decode cX8_told 9 = .ok (.istore_n 2, 1) := by decide +kernel
theorem dX8_told_10 : decode cX8_told 10 = .ok (.iload_n 1, 1) := by decide +kernel
theorem dX8_told_11 : decode cX8_told 11 = .ok (.iconst 1, 1) := by decide +kernel
theorem dX8_told_12 : decode cX8_told 12 = .ok (.if_icmp .ne 7, 3) := by decide +kernel
theorem dX8_told_15 : decode cX8_told 15 = .ok (.iload_n 2, 1) := by decide +kernel
theorem dX8_told_16 : decode cX8_told 16 = .ok (.goto 69, 3) := by decide +kernel
theorem dX8_told_19 : decode cX8_told 19 = .ok (.iload_n 1, 1) := by decide +kernel
theorem dX8_told_20 : decode cX8_told 20 = .ok (.iconst 2, 1) := by decide +kernel
theorem dX8_told_21 : decode cX8_told 21 = .ok (.if_icmp .ne 10, 3) := by decide +kernel
theorem dX8_told_24 : decode cX8_told 24 = .ok (.aload_n 0, 1) := by decide +kernel
theorem dX8_told_25 : decode cX8_told 25 = .ok (.invokevirtual 128, 3) := by decide +kernel
theorem dX8_told_28 : decode cX8_told 28 = .ok (.goto 57, 3) := by decide +kernel
theorem dX8_told_31 : decode cX8_told 31 = .ok (.iload_n 1, 1) := by decide +kernel
theorem dX8_told_32 : decode cX8_told 32 = .ok (.iconst 3, 1) := by decide +kernel
theorem dX8_told_33 : decode cX8_told 33 = .ok (.if_icmp .ne 10, 3) := by decide +kernel
theorem dX8_told_36 : decode cX8_told 36 = .ok (.aload_n 0, 1) := by decide +kernel
theorem dX8_told_37 : decode cX8_told 37 = .ok (.invokevirtual 131, 3) := by decide +kernel
theorem dX8_told_40 : decode cX8_told 40 = .ok (.goto 45, 3) := by decide +kernel
theorem dX8_told_43 : decode cX8_told 43 = .ok (.iload_n 1, 1) := by decide +kernel
theorem dX8_told_44 : decode cX8_told 44 = .ok (.iconst 4, 1) := by decide +kernel
theorem dX8_told_45 : decode cX8_told 45 = .ok (.if_icmp .ne 11, 3) := by decide +kernel
theorem dX8_told_48 : decode cX8_told 48 = .ok (.aload_n 0, 1) := by decide +kernel
theorem dX8_told_49 : decode cX8_told 49 = .ok (.iconst 0, 1) := by decide +kernel
theorem dX8_told_50 : decode cX8_told 50 = .ok (.invokevirtual 119, 3) := by decide +kernel
theorem dX8_told_53 : decode cX8_told 53 = .ok (.goto 32, 3) := by decide +kernel
theorem dX8_told_56 : decode cX8_told 56 = .ok (.iload_n 1, 1) := by decide +kernel
theorem dX8_told_57 : decode cX8_told 57 = .ok (.iconst 5, 1) := by decide +kernel
theorem dX8_told_58 : decode cX8_told 58 = .ok (.if_icmp .ne 10, 3) := by decide +kernel
theorem dX8_told_61 : decode cX8_told 61 = .ok (.aload_n 0, 1) := by decide +kernel
theorem dX8_told_62 : decode cX8_told 62 = .ok (.invokevirtual 134, 3) := by decide +kernel
theorem dX8_told_65 : decode cX8_told 65 = .ok (.goto 20, 3) := by decide +kernel
theorem dX8_told_68 : decode cX8_told 68 = .ok (.aload_n 0, 1) := by decide +kernel
theorem dX8_told_69 : decode cX8_told 69 = .ok (.invokevirtual 128, 3) := by decide +kernel
theorem dX8_told_72 : decode cX8_told 72 = .ok (.iconst 1, 1) := by decide +kernel
theorem dX8_told_73 : decode cX8_told 73 = .ok (.iload_n 2, 1) := by decide +kernel
theorem dX8_told_74 : decode cX8_told 74 = .ok (.ishl, 1) := by decide +kernel
theorem dX8_told_75 : decode cX8_told 75 = .ok (.iconst 1, 1) := by decide +kernel
theorem dX8_told_76 : decode cX8_told 76 = .ok (.isub, 1) := by decide +kernel
theorem dX8_told_77 : decode cX8_told 77 = .ok (.if_icmp .ne 7, 3) := by decide +kernel
theorem dX8_told_80 : decode cX8_told 80 = .ok (.iconst 1, 1) := by decide +kernel
theorem dX8_told_81 : decode cX8_told 81 = .ok (.goto 4, 3) := by decide +kernel
theorem dX8_told_84 : decode cX8_told 84 = .ok (.iconst 0, 1) := by decide +kernel
theorem dX8_told_85 : decode cX8_told 85 = .ok (.ireturn, 1) := by decide +kernel
theorem dX8_pattern_0 : decode cX8_pattern 0 = .ok (.aload_n 0, 1) := by decide +kernel
theorem dX8_pattern_1 : decode cX8_pattern 1 = .ok (.invokevirtual 137, 3) := by decide +kernel
theorem dX8_pattern_4 : decode cX8_pattern 4 = .ok (.ifCond .ne 6, 3) := by decide +kernel
theorem dX8_pattern_7 : decode cX8_pattern 7 = .ok (.bipush (-3), 2) := by decide +kernel
theorem dX8_pattern_9 : decode cX8_pattern 9 = .ok (.ireturn, 1) := by decide +kernel
theorem dX8_pattern_10 : decode cX8_pattern 10 = .ok (.iload_n 1, 1) := by decide +kernel
theorem dX8_pattern_11 : decode cX8_pattern 11 = .ok (.i2l, 1) := by decide +kernel
theorem dX8_pattern_12 : decode cX8_pattern 12 = .ok (.lconst 0, 1) := by decide +kernel
theorem dX8_pattern_13 : decode cX8_pattern 13 = .ok (.ldc2_w 140, 3) := by decide +kernel
theorem dX8_pattern_16 : decode cX8_pattern 16 = .ok (.invokestatic 44, 3) := by decide +kernel
theorem dX8_pattern_19 : decode cX8_pattern 19 = .ok (.ifCond .ne 6, 3) := by decide +kernel
theorem dX8_pattern_22 : decode cX8_pattern 22 = .ok (.bipush (-2), 2) := by decide +kernel
theorem dX8_pattern_24 : decode cX8_pattern 24 = .ok (.ireturn, 1) := by decide +kernel
theorem dX8_pattern_25 : decode cX8_pattern 25 = .ok (.iload_n 1, 1) := by decide +kernel
theorem dX8_pattern_26 : decode cX8_pattern 26 = .ok (.ifCond .ne 16, 3) := by decide +kernel
theorem dX8_pattern_29 : decode cX8_pattern 29 = .ok (.aload_n 0, 1) := by decide +kernel
theorem dX8_pattern_30 : decode cX8_pattern 30 = .ok (.invokevirtual 142, 3) := by decide +kernel
theorem dX8_pattern_33 : decode cX8_pattern 33 = .ok (.ifCond .eq 7, 3) := by decide +kernel
theorem dX8_pattern_36 : decode cX8_pattern 36 = .ok (.iconst 1, 1) := by decide +kernel
theorem dX8_pattern_37 : decode cX8_pattern 37 = .ok (.goto 4, 3) := by decide +kernel
theorem dX8_pattern_40 : decode cX8_pattern 40 = .ok (.iconst 0, 1) := by decide +kernel
theorem dX8_pattern_41 : decode cX8_pattern 41 = .ok (.ireturn, 1) := by decide +kernel
theorem dX8_pattern_42 : decode cX8_pattern 42 = .ok (.aload_n 0, 1) := by decide +kernel
theorem dX8_pattern_43 : decode cX8_pattern 43 = .ok (.invokevirtual 142, 3) := by decide +kernel
theorem dX8_pattern_46 : decode cX8_pattern 46 = .ok (.ifCond .eq 11, 3) := by decide +kernel
theorem dX8_pattern_49 : decode cX8_pattern 49 = .ok (.aload_n 0, 1) := by decide +kernel
theorem dX8_pattern_50 : decode cX8_pattern 50 = .ok (.iload_n 1, 1) := by decide +kernel
theorem dX8_pattern_51 : decode cX8_pattern 51 = .ok (.invokevirtual 145, 3) := by decide +kernel
theorem dX8_pattern_54 : decode cX8_pattern 54 = .ok (.goto 5, 3) := by decide +kernel
theorem dX8_pattern_57 : decode cX8_pattern 57 = .ok (.bipush (-5), 2) := by decide +kernel
theorem dX8_pattern_59 : decode cX8_pattern 59 = .ok (.ireturn, 1) := by decide +kernel
theorem dX8_back_0 : decode cX8_back 0 = .ok (.aload_n 0, 1) := by decide +kernel
theorem dX8_back_1 : decode cX8_back 1 = .ok (.invokevirtual 137, 3) := by decide +kernel
theorem dX8_back_4 : decode cX8_back 4 = .ok (.ifCond .ne 6, 3) := by decide +kernel
theorem dX8_back_7 : decode cX8_back 7 = .ok (.bipush (-3), 2) := by decide +kernel
theorem dX8_back_9 : decode cX8_back 9 = .ok (.ireturn, 1) := by decide +kernel
theorem dX8_back_10 : decode cX8_back 10 = .ok (.iload_n 1, 1) := by decide +kernel
theorem dX8_back_11 : decode cX8_back 11 = .ok (.i2l, 1) := by decide +kernel
theorem dX8_back_12 : decode cX8_back 12 = .ok (.lconst 0, 1) := by decide +kernel
theorem dX8_back_13 : decode cX8_back 13 = .ok (.aload_n 0, 1) := by decide +kernel
theorem dX8_back_14 : decode cX8_back 14 = .ok (.getfield 113, 3) := by decide +kernel
theorem dX8_back_17 : decode cX8_back 17 = .ok (.i2l, 1) := by decide +kernel
theorem dX8_back_18 : decode cX8_back 18 = .ok (.lconst 1, 1) := by decide +kernel
theorem dX8_back_19 : decode cX8_back 19 = .ok (.lsub, 1) := by decide +kernel
theorem dX8_back_20 : decode cX8_back 20 = .ok (.invokestatic 44, 3) := by decide +kernel
theorem dX8_back_23 : decode cX8_back 23 = .ok (.ifCond .ne 5, 3) := by decide +kernel
theorem dX8_back_26 : decode cX8_back 26 = .ok (.iconst (-1), 1) := by decide +kernel
theorem dX8_back_27 : decode cX8_back 27 = .ok (.ireturn, 1) := by decide +kernel
theorem dX8_back_28 : decode cX8_back 28 = .ok (.aload_n 0, 1) := by decide +kernel
theorem dX8_back_29 : decode cX8_back 29 = .ok (.invokevirtual 142, 3) := by decide +kernel
theorem dX8_back_32 : decode cX8_back 32 = .ok (.ifCond .ne 6, 3) := by decide +kernel
theorem dX8_back_35 : decode cX8_back 35 = .ok (.bipush (-5), 2) := by decide +kernel
theorem dX8_back_37 : decode cX8_back 37 = .ok (.ireturn, 1) := by decide +kernel
theorem dX8_back_38 : decode cX8_back 38 = .ok (.iconst 0, 1) := by decide +kernel
theorem dX8_back_39 : decode cX8_back 39 = .ok (.istore_n 2, 1) := by decide +kernel
theorem dX8_back_40 : decode cX8_back 40 = .ok (.aload_n 0, 1) := by decide +kernel
theorem dX8_back_41 : decode cX8_back 41 = .ok (.getfield 113, 3) := by decide +kernel
theorem dX8_back_44 : decode cX8_back 44 = .ok (.iconst 1, 1) := by decide +kernel
theorem dX8_back_45 : decode cX8_back 45 = .ok (.isub, 1) := by decide +kernel
theorem dX8_back_46 : decode cX8_back 46 = .ok (.aload_n 0, 1) := by decide +kernel
theorem dX8_back_47 : decode cX8_back 47 = .ok (.iload_n 2, 1) := by decide +kernel
theorem dX8_back_48 : decode cX8_back 48 = .ok (.invokevirtual 116, 3) := by decide +kernel
theorem dX8_back_51 : decode cX8_back 51 = .ok (.isub, 1) := by decide +kernel
theorem dX8_back_52 : decode cX8_back 52 = .ok (.iload_n 1, 1) := by decide +kernel
theorem dX8_back_53 : decode cX8_back 53 = .ok (.if_icmp .eq 9, 3) := by decide +kernel
theorem dX8_back_56 : decode cX8_back 56 = .ok (.iinc 2 1, 3) := by decide +kernel
theorem dX8_back_59 : decode cX8_back 59 = .ok (.goto (-19), 3) := by decide +kernel
theorem dX8_back_62 : decode cX8_back 62 = .ok (.aload_n 0, 1) := by decide +kernel
theorem dX8_back_63 : decode cX8_back 63 = .ok (.getfield 34, 3) := by decide +kernel
theorem dX8_back_66 : decode cX8_back 66 = .ok (.iload_n 2, 1) := by decide +kernel
theorem dX8_back_67 : decode cX8_back 67 = .ok (.iaload, 1) := by decide +kernel
theorem dX8_back_68 : decode cX8_back 68 = .ok (.ireturn, 1) := by decide +kernel
theorem dX8_behind_0 : decode cX8_behind 0 = .ok (.iload_n 0, 1) := by decide +kernel
theorem dX8_behind_1 : decode cX8_behind 1 = .ok (.iconst 1, 1) := by decide +kernel
theorem dX8_behind_2 : decode cX8_behind 2 = .ok (.iand, 1) := by decide +kernel
theorem dX8_behind_3 : decode cX8_behind 3 = .ok (.ifCond .ne 15, 3) := by decide +kernel
theorem dX8_behind_6 : decode cX8_behind 6 = .ok (.iload_n 1, 1) := by decide +kernel
theorem dX8_behind_7 : decode cX8_behind 7 = .ok (.ifCond .ne 9, 3) := by decide +kernel
theorem dX8_behind_10 : decode cX8_behind 10 = .ok (.iload_n 0, 1) := by decide +kernel
theorem dX8_behind_11 : decode cX8_behind 11 = .ok (.iconst 1, 1) := by decide +kernel
theorem dX8_behind_12 : decode cX8_behind 12 = .ok (.ishr, 1) := by decide +kernel
theorem dX8_behind_13 : decode cX8_behind 13 = .ok (.goto 4, 3) := by decide +kernel
theorem dX8_behind_16 : decode cX8_behind 16 = .ok (.iconst (-1), 1) := by decide +kernel
theorem dX8_behind_17 : decode cX8_behind 17 = .ok (.ireturn, 1) := by decide +kernel
theorem dX8_behind_18 : decode cX8_behind 18 = .ok (.iload_n 1, 1) := by decide +kernel
theorem dX8_behind_19 : decode cX8_behind 19 = .ok (.ifCond .le 21, 3) := by decide +kernel
theorem dX8_behind_22 : decode cX8_behind 22 = .ok (.iload_n 0, 1) := by decide +kernel
theorem dX8_behind_23 : decode cX8_behind 23 = .ok (.iload_n 1, 1) := by decide +kernel
theorem dX8_behind_24 : decode cX8_behind 24 = .ok (.ishr, 1) := by decide +kernel
theorem dX8_behind_25 : decode cX8_behind 25 = .ok (.iconst 1, 1) := by decide +kernel
theorem dX8_behind_26 : decode cX8_behind 26 = .ok (.iand, 1) := by decide +kernel
theorem dX8_behind_27 : decode cX8_behind 27 = .ok (.ifCond .ne 13, 3) := by decide +kernel
theorem dX8_behind_30 : decode cX8_behind 30 = .ok (.iload_n 0, 1) := by decide +kernel
theorem dX8_behind_31 : decode cX8_behind 31 = .ok (.iconst 1, 1) := by decide +kernel
theorem dX8_behind_32 : decode cX8_behind 32 = .ok (.iload_n 1, 1) := by decide +kernel
theorem dX8_behind_33 : decode cX8_behind 33 = .ok (.ishl, 1) := by decide +kernel
theorem dX8_behind_34 : decode cX8_behind 34 = .ok (.ior, 1) := by decide +kernel
theorem dX8_behind_35 : decode cX8_behind 35 = .ok (.iconst 1, 1) := by decide +kernel
theorem dX8_behind_36 : decode cX8_behind 36 = .ok (.ishr, 1) := by decide +kernel
theorem dX8_behind_37 : decode cX8_behind 37 = .ok (.goto 4, 3) := by decide +kernel
theorem dX8_behind_40 : decode cX8_behind 40 = .ok (.iconst (-1), 1) := by decide +kernel
theorem dX8_behind_41 : decode cX8_behind 41 = .ok (.ireturn, 1) := by decide +kernel
theorem dX8_findWays_0 : decode cX8_findWays 0 = .ok (.iconst 0, 1) := by decide +kernel
theorem dX8_findWays_1 : decode cX8_findWays 1 = .ok (.istore_n 2, 1) := by decide +kernel
theorem dX8_findWays_2 : decode cX8_findWays 2 = .ok (.iload_n 2, 1) := by decide +kernel
theorem dX8_findWays_3 : decode cX8_findWays 3 = .ok (.sipush 256, 3) := by decide +kernel
theorem dX8_findWays_6 : decode cX8_findWays 6 = .ok (.if_icmp .ge 25, 3) := by decide +kernel
theorem dX8_findWays_9 : decode cX8_findWays 9 = .ok (.aload_n 0, 1) := by decide +kernel
theorem dX8_findWays_10 : decode cX8_findWays 10 = .ok (.getfield 37, 3) := by decide +kernel
theorem dX8_findWays_13 : decode cX8_findWays 13 = .ok (.iload_n 2, 1) := by decide +kernel
theorem dX8_findWays_14 : decode cX8_findWays 14 = .ok (.iload_n 2, 1) := by decide +kernel
theorem dX8_findWays_15 : decode cX8_findWays 15 = .ok (.iload_n 1, 1) := by decide +kernel
theorem dX8_findWays_16 : decode cX8_findWays 16 = .ok (.if_icmp .ne 7, 3) := by decide +kernel
theorem dX8_findWays_19 : decode cX8_findWays 19 = .ok (.iconst 0, 1) := by decide +kernel
theorem dX8_findWays_20 : decode cX8_findWays 20 = .ok (.goto 4, 3) := by decide +kernel
theorem dX8_findWays_23 : decode cX8_findWays 23 = .ok (.iconst (-1), 1) := by decide +kernel
theorem dX8_findWays_24 : decode cX8_findWays 24 = .ok (.iastore, 1) := by decide +kernel
theorem dX8_findWays_25 : decode cX8_findWays 25 = .ok (.iinc 2 1, 3) := by decide +kernel
theorem dX8_findWays_28 : decode cX8_findWays 28 = .ok (.goto (-26), 3) := by decide +kernel
theorem dX8_findWays_31 : decode cX8_findWays 31 = .ok (.iconst 1, 1) := by decide +kernel
theorem dX8_findWays_32 : decode cX8_findWays 32 = .ok (.istore_n 2, 1) := by decide +kernel
theorem dX8_findWays_33 : decode cX8_findWays 33 = .ok (.iconst 0, 1) := by decide +kernel
theorem dX8_findWays_34 : decode cX8_findWays 34 = .ok (.istore_n 3, 1) := by decide +kernel
theorem dX8_findWays_35 : decode cX8_findWays 35 = .ok (.iload_n 2, 1) := by decide +kernel
theorem dX8_findWays_36 : decode cX8_findWays 36 = .ok (.ifCond .eq 126, 3) := by decide +kernel
theorem dX8_findWays_39 : decode cX8_findWays 39 = .ok (.iconst 0, 1) := by decide +kernel
theorem dX8_findWays_40 : decode cX8_findWays 40 = .ok (.istore_n 2, 1) := by decide +kernel
theorem dX8_findWays_41 : decode cX8_findWays 41 = .ok (.iconst 0, 1) := by decide +kernel
theorem dX8_findWays_42 : decode cX8_findWays 42 = .ok (.istore 4, 2) := by decide +kernel
theorem dX8_findWays_44 : decode cX8_findWays 44 = .ok (.iload 4, 2) := by decide +kernel
theorem dX8_findWays_46 : decode cX8_findWays 46 = .ok (.sipush 256, 3) := by decide +kernel
theorem dX8_findWays_49 : decode cX8_findWays 49 = .ok (.if_icmp .ge 107, 3) := by decide +kernel
theorem dX8_findWays_52 : decode cX8_findWays 52 = .ok (.iconst 0, 1) := by decide +kernel
theorem dX8_findWays_53 : decode cX8_findWays 53 = .ok (.istore 5, 2) := by decide +kernel
theorem dX8_findWays_55 : decode cX8_findWays 55 = .ok (.iload 5, 2) := by decide +kernel
theorem dX8_findWays_57 : decode cX8_findWays 57 = .ok (.bipush 8, 2) := by decide +kernel
theorem dX8_findWays_59 : decode cX8_findWays 59 = .ok (.if_icmp .ge 91, 3) := by decide +kernel
theorem dX8_findWays_62 : decode cX8_findWays 62 = .ok (.aload_n 0, 1) := by decide +kernel
theorem dX8_findWays_63 : decode cX8_findWays 63 = .ok (.getfield 37, 3) := by decide +kernel
theorem dX8_findWays_66 : decode cX8_findWays 66 = .ok (.iload 4, 2) := by decide +kernel
theorem dX8_findWays_68 : decode cX8_findWays 68 = .ok (.iaload, 1) := by decide +kernel
theorem dX8_findWays_69 : decode cX8_findWays 69 = .ok (.ifCond .ge 81, 3) := by decide +kernel
theorem dX8_findWays_72 : decode cX8_findWays 72 = .ok (.iload 4, 2) := by decide +kernel
theorem dX8_findWays_74 : decode cX8_findWays 74 = .ok (.iload 5, 2) := by decide +kernel
theorem dX8_findWays_76 : decode cX8_findWays 76 = .ok (.invokestatic 148, 3) := by decide +kernel
theorem dX8_findWays_79 : decode cX8_findWays 79 = .ok (.istore 6, 2) := by decide +kernel
theorem dX8_findWays_81 : decode cX8_findWays 81 = .ok (.iload 6, 2) := by decide +kernel
theorem dX8_findWays_83 : decode cX8_findWays 83 = .ok (.ifCond .lt 18, 3) := by decide +kernel
theorem dX8_findWays_86 : decode cX8_findWays 86 = .ok (.aload_n 0, 1) := by decide +kernel
theorem dX8_findWays_87 : decode cX8_findWays 87 = .ok (.getfield 37, 3) := by decide +kernel
theorem dX8_findWays_90 : decode cX8_findWays 90 = .ok (.iload 6, 2) := by decide +kernel
theorem dX8_findWays_92 : decode cX8_findWays 92 = .ok (.iaload, 1) := by decide +kernel
theorem dX8_findWays_93 : decode cX8_findWays 93 = .ok (.iload_n 3, 1) := by decide +kernel
theorem dX8_findWays_94 : decode cX8_findWays 94 = .ok (.if_icmp .ne 7, 3) := by decide +kernel
theorem dX8_findWays_97 : decode cX8_findWays 97 = .ok (.iconst 1, 1) := by decide +kernel
theorem dX8_findWays_98 : decode cX8_findWays 98 = .ok (.goto 4, 3) := by decide +kernel
theorem dX8_findWays_101 : decode cX8_findWays 101 = .ok (.iconst 0, 1) := by decide +kernel
theorem dX8_findWays_102 : decode cX8_findWays 102 = .ok (.istore 7, 2) := by decide +kernel
theorem dX8_findWays_104 : decode cX8_findWays 104 = .ok (.aload_n 0, 1) := by decide +kernel
theorem dX8_findWays_105 : decode cX8_findWays 105 = .ok (.getfield 37, 3) := by decide +kernel
theorem dX8_findWays_108 : decode cX8_findWays 108 = .ok (.iload 4, 2) := by decide +kernel
theorem dX8_findWays_110 : decode cX8_findWays 110 = .ok (.iload 7, 2) := by decide +kernel
theorem dX8_findWays_112 : decode cX8_findWays 112 = .ok (.ifCond .eq 9, 3) := by decide +kernel
theorem dX8_findWays_115 : decode cX8_findWays 115 = .ok (.iload_n 3, 1) := by decide +kernel
theorem dX8_findWays_116 : decode cX8_findWays 116 = .ok (.iconst 1, 1) := by decide +kernel
theorem dX8_findWays_117 : decode cX8_findWays 117 = .ok (.iadd, 1) := by decide +kernel
theorem dX8_findWays_118 : decode cX8_findWays 118 = .ok (.goto 10, 3) := by decide +kernel
theorem dX8_findWays_121 : decode cX8_findWays 121 = .ok (.aload_n 0, 1) := by decide +kernel
theorem dX8_findWays_122 : decode cX8_findWays 122 = .ok (.getfield 37, 3) := by decide +kernel
theorem dX8_findWays_125 : decode cX8_findWays 125 = .ok (.iload 4, 2) := by decide +kernel
theorem dX8_findWays_127 : decode cX8_findWays 127 = .ok (.iaload, 1) := by decide +kernel
theorem dX8_findWays_128 : decode cX8_findWays 128 = .ok (.iastore, 1) := by decide +kernel
theorem dX8_findWays_129 : decode cX8_findWays 129 = .ok (.iload_n 2, 1) := by decide +kernel
theorem dX8_findWays_130 : decode cX8_findWays 130 = .ok (.ifCond .ne 8, 3) := by decide +kernel
theorem dX8_findWays_133 : decode cX8_findWays 133 = .ok (.iload 7, 2) := by decide +kernel
theorem dX8_findWays_135 : decode cX8_findWays 135 = .ok (.ifCond .eq 7, 3) := by decide +kernel
theorem dX8_findWays_138 : decode cX8_findWays 138 = .ok (.iconst 1, 1) := by decide +kernel
theorem dX8_findWays_139 : decode cX8_findWays 139 = .ok (.goto 4, 3) := by decide +kernel
theorem dX8_findWays_142 : decode cX8_findWays 142 = .ok (.iconst 0, 1) := by decide +kernel
theorem dX8_findWays_143 : decode cX8_findWays 143 = .ok (.istore_n 2, 1) := by decide +kernel
theorem dX8_findWays_144 : decode cX8_findWays 144 = .ok (.iinc 5 1, 3) := by decide +kernel
theorem dX8_findWays_147 : decode cX8_findWays 147 = .ok (.goto (-92), 3) := by decide +kernel
theorem dX8_findWays_150 : decode cX8_findWays 150 = .ok (.iinc 4 1, 3) := by decide +kernel
theorem dX8_findWays_153 : decode cX8_findWays 153 = .ok (.goto (-109), 3) := by decide +kernel
theorem dX8_findWays_156 : decode cX8_findWays 156 = .ok (.iinc 3 1, 3) := by decide +kernel
theorem dX8_findWays_159 : decode cX8_findWays 159 = .ok (.goto (-124), 3) := by decide +kernel
theorem dX8_findWays_162 : decode cX8_findWays 162 = .ok (.return_, 1) := by decide +kernel
theorem dX8_nextThrow_0 : decode cX8_nextThrow 0 = .ok (.iconst 0, 1) := by decide +kernel
theorem dX8_nextThrow_1 : decode cX8_nextThrow 1 = .ok (.istore_n 2, 1) := by decide +kernel
theorem dX8_nextThrow_2 : decode cX8_nextThrow 2 = .ok (.iload_n 1, 1) := by decide +kernel
theorem dX8_nextThrow_3 : decode cX8_nextThrow 3 = .ok (.iload_n 2, 1) := by decide +kernel
theorem dX8_nextThrow_4 : decode cX8_nextThrow 4 = .ok (.invokestatic 148, 3) := by decide +kernel
theorem dX8_nextThrow_7 : decode cX8_nextThrow 7 = .ok (.ifCond .lt 24, 3) := by decide +kernel
theorem dX8_nextThrow_10 : decode cX8_nextThrow 10 = .ok (.aload_n 0, 1) := by decide +kernel
theorem dX8_nextThrow_11 : decode cX8_nextThrow 11 = .ok (.getfield 37, 3) := by decide +kernel
theorem dX8_nextThrow_14 : decode cX8_nextThrow 14 = .ok (.iload_n 1, 1) := by decide +kernel
theorem dX8_nextThrow_15 : decode cX8_nextThrow 15 = .ok (.iload_n 2, 1) := by decide +kernel
theorem dX8_nextThrow_16 : decode cX8_nextThrow 16 = .ok (.invokestatic 148, 3) := by decide +kernel
theorem dX8_nextThrow_19 : decode cX8_nextThrow 19 = .ok (.iaload, 1) := by decide +kernel
theorem dX8_nextThrow_20 : decode cX8_nextThrow 20 = .ok (.aload_n 0, 1) := by decide +kernel
theorem dX8_nextThrow_21 : decode cX8_nextThrow 21 = .ok (.getfield 37, 3) := by decide +kernel
theorem dX8_nextThrow_24 : decode cX8_nextThrow 24 = .ok (.iload_n 1, 1) := by decide +kernel
theorem dX8_nextThrow_25 : decode cX8_nextThrow 25 = .ok (.iaload, 1) := by decide +kernel
theorem dX8_nextThrow_26 : decode cX8_nextThrow 26 = .ok (.iconst 1, 1) := by decide +kernel
theorem dX8_nextThrow_27 : decode cX8_nextThrow 27 = .ok (.isub, 1) := by decide +kernel
theorem dX8_nextThrow_28 : decode cX8_nextThrow 28 = .ok (.if_icmp .eq 9, 3) := by decide +kernel
theorem dX8_nextThrow_31 : decode cX8_nextThrow 31 = .ok (.iinc 2 1, 3) := by decide +kernel
theorem dX8_nextThrow_34 : decode cX8_nextThrow 34 = .ok (.goto (-32), 3) := by decide +kernel
theorem dX8_nextThrow_37 : decode cX8_nextThrow 37 = .ok (.iload_n 2, 1) := by decide +kernel
theorem dX8_nextThrow_38 : decode cX8_nextThrow 38 = .ok (.ireturn, 1) := by decide +kernel
