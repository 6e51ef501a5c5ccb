theorem dX7_soundEndings_0 : decode cX7_soundEndings 0 = .ok (.iload_n 1, 1) := by decide +kernel
theorem dX7_soundEndings_1 : decode cX7_soundEndings 1 = .ok (.iload_n 0, 1) := by decide +kernel
theorem dX7_soundEndings_2 : decode cX7_soundEndings 2 = .ok (.if_icmp .lt 13, 3) := by decide +kernel
theorem dX7_soundEndings_5 : decode cX7_soundEndings 5 = .ok (.iload_n 3, 1) := by decide +kernel
theorem dX7_soundEndings_6 : decode cX7_soundEndings 6 = .ok (.ifCond .ne 7, 3) := by decide +kernel
theorem dX7_soundEndings_9 : decode cX7_soundEndings 9 = .ok (.iconst 1, 1) := by decide +kernel
theorem dX7_soundEndings_10 : decode cX7_soundEndings 10 = .ok (.goto 4, 3) := by decide +kernel
theorem dX7_soundEndings_13 : decode cX7_soundEndings 13 = .ok (.iconst 0, 1) := by decide +kernel
theorem dX7_soundEndings_14 : decode cX7_soundEndings 14 = .ok (.ireturn, 1) := by decide +kernel
theorem dX7_soundEndings_15 : decode cX7_soundEndings 15 = .ok (.iconst 0, 1) := by decide +kernel
theorem dX7_soundEndings_16 : decode cX7_soundEndings 16 = .ok (.istore 4, 2) := by decide +kernel
theorem dX7_soundEndings_18 : decode cX7_soundEndings 18 = .ok (.iconst 0, 1) := by decide +kernel
theorem dX7_soundEndings_19 : decode cX7_soundEndings 19 = .ok (.istore 5, 2) := by decide +kernel
theorem dX7_soundEndings_21 : decode cX7_soundEndings 21 = .ok (.iload 5, 2) := by decide +kernel
theorem dX7_soundEndings_23 : decode cX7_soundEndings 23 = .ok (.bipush 8, 2) := by decide +kernel
theorem dX7_soundEndings_25 : decode cX7_soundEndings 25 = .ok (.if_icmp .ge 56, 3) := by decide +kernel
theorem dX7_soundEndings_28 : decode cX7_soundEndings 28 = .ok (.iload 5, 2) := by decide +kernel
theorem dX7_soundEndings_30 : decode cX7_soundEndings 30 = .ok (.iload_n 3, 1) := by decide +kernel
theorem dX7_soundEndings_31 : decode cX7_soundEndings 31 = .ok (.if_icmp .gt 50, 3) := by decide +kernel
theorem dX7_soundEndings_34 : decode cX7_soundEndings 34 = .ok (.iload_n 1, 1) := by decide +kernel
theorem dX7_soundEndings_35 : decode cX7_soundEndings 35 = .ok (.iload 5, 2) := by decide +kernel
theorem dX7_soundEndings_37 : decode cX7_soundEndings 37 = .ok (.iadd, 1) := by decide +kernel
theorem dX7_soundEndings_38 : decode cX7_soundEndings 38 = .ok (.iload_n 0, 1) := by decide +kernel
theorem dX7_soundEndings_39 : decode cX7_soundEndings 39 = .ok (.invokestatic 244, 3) := by decide +kernel
theorem dX7_soundEndings_42 : decode cX7_soundEndings 42 = .ok (.istore 6, 2) := by decide +kernel
theorem dX7_soundEndings_44 : decode cX7_soundEndings 44 = .ok (.iload_n 2, 1) := by decide +kernel
theorem dX7_soundEndings_45 : decode cX7_soundEndings 45 = .ok (.iload 6, 2) := by decide +kernel
theorem dX7_soundEndings_47 : decode cX7_soundEndings 47 = .ok (.invokestatic 247, 3) := by decide +kernel
theorem dX7_soundEndings_50 : decode cX7_soundEndings 50 = .ok (.ifCond .ne 25, 3) := by decide +kernel
theorem dX7_soundEndings_53 : decode cX7_soundEndings 53 = .ok (.iload 4, 2) := by decide +kernel
theorem dX7_soundEndings_55 : decode cX7_soundEndings 55 = .ok (.iload_n 0, 1) := by decide +kernel
theorem dX7_soundEndings_56 : decode cX7_soundEndings 56 = .ok (.iload_n 1, 1) := by decide +kernel
theorem dX7_soundEndings_57 : decode cX7_soundEndings 57 = .ok (.iconst 1, 1) := by decide +kernel
theorem dX7_soundEndings_58 : decode cX7_soundEndings 58 = .ok (.iadd, 1) := by decide +kernel
theorem dX7_soundEndings_59 : decode cX7_soundEndings 59 = .ok (.iload_n 2, 1) := by decide +kernel
theorem dX7_soundEndings_60 : decode cX7_soundEndings 60 = .ok (.iconst 1, 1) := by decide +kernel
theorem dX7_soundEndings_61 : decode cX7_soundEndings 61 = .ok (.iload 6, 2) := by decide +kernel
theorem dX7_soundEndings_63 : decode cX7_soundEndings 63 = .ok (.ishl, 1) := by decide +kernel
theorem dX7_soundEndings_64 : decode cX7_soundEndings 64 = .ok (.ior, 1) := by decide +kernel
theorem dX7_soundEndings_65 : decode cX7_soundEndings 65 = .ok (.iload_n 3, 1) := by decide +kernel
theorem dX7_soundEndings_66 : decode cX7_soundEndings 66 = .ok (.iload 5, 2) := by decide +kernel
theorem dX7_soundEndings_68 : decode cX7_soundEndings 68 = .ok (.isub, 1) := by decide +kernel
theorem dX7_soundEndings_69 : decode cX7_soundEndings 69 = .ok (.invokestatic 205, 3) := by decide +kernel
theorem dX7_soundEndings_72 : decode cX7_soundEndings 72 = .ok (.iadd, 1) := by decide +kernel
theorem dX7_soundEndings_73 : decode cX7_soundEndings 73 = .ok (.istore 4, 2) := by decide +kernel
theorem dX7_soundEndings_75 : decode cX7_soundEndings 75 = .ok (.iinc 5 1, 3) := by decide +kernel
theorem dX7_soundEndings_78 : decode cX7_soundEndings 78 = .ok (.goto (-57), 3) := by decide +kernel
theorem dX7_soundEndings_81 : decode cX7_soundEndings 81 = .ok (.iload 4, 2) := by decide +kernel
theorem dX7_soundEndings_83 : decode cX7_soundEndings 83 = .ok (.ireturn, 1) := by decide +kernel
theorem dJ6_bitCount_0f7a4_0 : decode cJ6_bitCount_0f7a4 0 = .ok (.iload_n 0, 1) := by decide +kernel
theorem dJ6_bitCount_0f7a4_1 : decode cJ6_bitCount_0f7a4 1 = .ok (.iload_n 0, 1) := by decide +kernel
theorem dJ6_bitCount_0f7a4_2 : decode cJ6_bitCount_0f7a4 2 = .ok (.iconst 1, 1) := by decide +kernel
theorem dJ6_bitCount_0f7a4_3 : decode cJ6_bitCount_0f7a4 3 = .ok (.iushr, 1) := by decide +kernel
theorem dJ6_bitCount_0f7a4_4 : decode cJ6_bitCount_0f7a4 4 = .ok (.ldc_w 265, 3) := by decide +kernel
theorem dJ6_bitCount_0f7a4_7 : decode cJ6_bitCount_0f7a4 7 = .ok (.iand, 1) := by decide +kernel
theorem dJ6_bitCount_0f7a4_8 : decode cJ6_bitCount_0f7a4 8 = .ok (.isub, 1) := by decide +kernel
theorem dJ6_bitCount_0f7a4_9 : decode cJ6_bitCount_0f7a4 9 = .ok (.istore_n 0, 1) := by decide +kernel
theorem dJ6_bitCount_0f7a4_10 : decode cJ6_bitCount_0f7a4 10 = .ok (.iload_n 0, 1) := by decide +kernel
theorem dJ6_bitCount_0f7a4_11 : decode cJ6_bitCount_0f7a4 11 = .ok (.ldc_w 266, 3) := by decide +kernel
theorem dJ6_bitCount_0f7a4_14 : decode cJ6_bitCount_0f7a4 14 = .ok (.iand, 1) := by decide +kernel
theorem dJ6_bitCount_0f7a4_15 : decode cJ6_bitCount_0f7a4 15 = .ok (.iload_n 0, 1) := by decide +kernel
theorem dJ6_bitCount_0f7a4_16 : decode cJ6_bitCount_0f7a4 16 = .ok (.iconst 2, 1) := by decide +kernel
theorem dJ6_bitCount_0f7a4_17 : decode cJ6_bitCount_0f7a4 17 = .ok (.iushr, 1) := by decide +kernel
theorem dJ6_bitCount_0f7a4_18 : decode cJ6_bitCount_0f7a4 18 = .ok (.ldc_w 266, 3) := by decide +kernel
theorem dJ6_bitCount_0f7a4_21 : decode cJ6_bitCount_0f7a4 21 = .ok (.iand, 1) := by decide +kernel
theorem dJ6_bitCount_0f7a4_22 : decode cJ6_bitCount_0f7a4 22 = .ok (.iadd, 1) := by decide +kernel
theorem dJ6_bitCount_0f7a4_23 : decode cJ6_bitCount_0f7a4 23 = .ok (.istore_n 0, 1) := by decide +kernel
theorem dJ6_bitCount_0f7a4_24 : decode cJ6_bitCount_0f7a4 24 = .ok (.iload_n 0, 1) := by decide +kernel
theorem dJ6_bitCount_0f7a4_25 : decode cJ6_bitCount_0f7a4 25 = .ok (.iload_n 0, 1) := by decide +kernel
theorem dJ6_bitCount_0f7a4_26 : decode cJ6_bitCount_0f7a4 26 = .ok (.iconst 4, 1) := by decide +kernel
theorem dJ6_bitCount_0f7a4_27 : decode cJ6_bitCount_0f7a4 27 = .ok (.iushr, 1) := by decide +kernel
theorem dJ6_bitCount_0f7a4_28 : decode cJ6_bitCount_0f7a4 28 = .ok (.iadd, 1) := by decide +kernel
theorem dJ6_bitCount_0f7a4_29 : decode cJ6_bitCount_0f7a4 29 = .ok (.ldc_w 267, 3) := by decide +kernel
theorem dJ6_bitCount_0f7a4_32 : decode cJ6_bitCount_0f7a4 32 = .ok (.iand, 1) := by decide +kernel
theorem dJ6_bitCount_0f7a4_33 : decode cJ6_bitCount_0f7a4 33 = .ok (.istore_n 0, 1) := by decide +kernel
theorem dJ6_bitCount_0f7a4_34 : decode cJ6_bitCount_0f7a4 34 = .ok (.iload_n 0, 1) := by decide +kernel
theorem dJ6_bitCount_0f7a4_35 : decode cJ6_bitCount_0f7a4 35 = .ok (.iload_n 0, 1) := by decide +kernel
theorem dJ6_bitCount_0f7a4_36 : decode cJ6_bitCount_0f7a4 36 = .ok (.bipush 8, 2) := by decide +kernel
theorem dJ6_bitCount_0f7a4_38 : decode cJ6_bitCount_0f7a4 38 = .ok (.iushr, 1) := by decide +kernel
theorem dJ6_bitCount_0f7a4_39 : decode cJ6_bitCount_0f7a4 39 = .ok (.iadd, 1) := by decide +kernel
theorem dJ6_bitCount_0f7a4_40 : decode cJ6_bitCount_0f7a4 40 = .ok (.istore_n 0, 1) := by decide +kernel
theorem dJ6_bitCount_0f7a4_41 : decode cJ6_bitCount_0f7a4 41 = .ok (.iload_n 0, 1) := by decide +kernel
theorem dJ6_bitCount_0f7a4_42 : decode cJ6_bitCount_0f7a4 42 = .ok (.iload_n 0, 1) := by decide +kernel
theorem dJ6_bitCount_0f7a4_43 : decode cJ6_bitCount_0f7a4 43 = .ok (.bipush 16, 2) := by decide +kernel
theorem dJ6_bitCount_0f7a4_45 : decode cJ6_bitCount_0f7a4 45 = .ok (.iushr, 1) := by decide +kernel
theorem dJ6_bitCount_0f7a4_46 : decode cJ6_bitCount_0f7a4 46 = .ok (.iadd, 1) := by decide +kernel
theorem dJ6_bitCount_0f7a4_47 : decode cJ6_bitCount_0f7a4 47 = .ok (.istore_n 0, 1) := by decide +kernel
theorem dJ6_bitCount_0f7a4_48 : decode cJ6_bitCount_0f7a4 48 = .ok (.iload_n 0, 1) := by decide +kernel
theorem dJ6_bitCount_0f7a4_49 : decode cJ6_bitCount_0f7a4 49 = .ok (.bipush 63, 2) := by decide +kernel
theorem dJ6_bitCount_0f7a4_51 : decode cJ6_bitCount_0f7a4 51 = .ok (.iand, 1) := by decide +kernel
theorem dJ6_bitCount_0f7a4_52 : decode cJ6_bitCount_0f7a4 52 = .ok (.ireturn, 1) := by decide +kernel
theorem dJ9_floorMod_7cf53_0 : decode cJ9_floorMod_7cf53 0 = .ok (.iload_n 0, 1) := by decide +kernel
theorem dJ9_floorMod_7cf53_1 : decode cJ9_floorMod_7cf53 1 = .ok (.iload_n 1, 1) := by decide +kernel
theorem dJ9_floorMod_7cf53_2 : decode cJ9_floorMod_7cf53 2 = .ok (.irem, 1) := by decide +kernel
theorem dJ9_floorMod_7cf53_3 : decode cJ9_floorMod_7cf53 3 = .ok (.istore_n 2, 1) := by decide +kernel
theorem dJ9_floorMod_7cf53_4 : decode cJ9_floorMod_7cf53 4 = .ok (.iload_n 0, 1) := by decide +kernel
theorem dJ9_floorMod_7cf53_5 : decode cJ9_floorMod_7cf53 5 = .ok (.iload_n 1, 1) := by decide +kernel
theorem dJ9_floorMod_7cf53_6 : decode cJ9_floorMod_7cf53 6 = .ok (.ixor, 1) := by decide +kernel
theorem dJ9_floorMod_7cf53_7 : decode cJ9_floorMod_7cf53 7 = .ok (.ifCond .ge 11, 3) := by decide +kernel
theorem dJ9_floorMod_7cf53_10 : decode cJ9_floorMod_7cf53 10 = .ok (.iload_n 2, 1) := by decide +kernel
theorem dJ9_floorMod_7cf53_11 : decode cJ9_floorMod_7cf53 11 = .ok (.ifCond .eq 7, 3) := by decide +kernel
theorem dJ9_floorMod_7cf53_14 : decode cJ9_floorMod_7cf53 14 = .ok (.iload_n 2, 1) := by decide +kernel
theorem dJ9_floorMod_7cf53_15 : decode cJ9_floorMod_7cf53 15 = .ok (.iload_n 1, 1) := by decide +kernel
theorem dJ9_floorMod_7cf53_16 : decode cJ9_floorMod_7cf53 16 = .ok (.iadd, 1) := by decide +kernel
theorem dJ9_floorMod_7cf53_17 : decode cJ9_floorMod_7cf53 17 = .ok (.ireturn, 1) := by decide +kernel
theorem dJ9_floorMod_7cf53_18 : decode cJ9_floorMod_7cf53 18 = .ok (.iload_n 2, 1) := by decide +kernel
theorem dJ9_floorMod_7cf53_19 : decode cJ9_floorMod_7cf53 19 = .ok (.ireturn, 1) := by decide +kernel
theorem dJ7_fill_53178_0 : decode cJ7_fill_53178 0 = .ok (.iconst 0, 1) := by decide +kernel
theorem dJ7_fill_53178_1 : decode cJ7_fill_53178 1 = .ok (.istore_n 2, 1) := by decide +kernel
theorem dJ7_fill_53178_2 : decode cJ7_fill_53178 2 = .ok (.aload_n 0, 1) := by decide +kernel
theorem dJ7_fill_53178_3 : decode cJ7_fill_53178 3 = .ok (.arraylength, 1) := by decide +kernel
theorem dJ7_fill_53178_4 : decode cJ7_fill_53178 4 = .ok (.istore_n 3, 1) := by decide +kernel
theorem dJ7_fill_53178_5 : decode cJ7_fill_53178 5 = .ok (.iload_n 2, 1) := by decide +kernel
theorem dJ7_fill_53178_6 : decode cJ7_fill_53178 6 = .ok (.iload_n 3, 1) := by decide +kernel
theorem dJ7_fill_53178_7 : decode cJ7_fill_53178 7 = .ok (.if_icmp .ge 13, 3) := by decide +kernel
theorem dJ7_fill_53178_10 : decode cJ7_fill_53178 10 = .ok (.aload_n 0, 1) := by decide +kernel
theorem dJ7_fill_53178_11 : decode cJ7_fill_53178 11 = .ok (.iload_n 2, 1) := by decide +kernel
theorem dJ7_fill_53178_12 : decode cJ7_fill_53178 12 = .ok (.iload_n 1, 1) := by decide +kernel
theorem dJ7_fill_53178_13 : decode cJ7_fill_53178 13 = .ok (.iastore, 1) := by decide +kernel
theorem dJ7_fill_53178_14 : decode cJ7_fill_53178 14 = .ok (.iinc 2 1, 3) := by decide +kernel
theorem dJ7_fill_53178_17 : decode cJ7_fill_53178 17 = .ok (.goto (-12), 3) := by decide +kernel
theorem dJ7_fill_53178_20 : decode cJ7_fill_53178 20 = .ok (.return_, 1) := by decide +kernel
theorem dL_cell_0 : decode cL_cell 0 = .ok (.iload_n 1, 1) := by decide +kernel
theorem dL_cell_1 : decode cL_cell 1 = .ok (.aload_n 0, 1) := by decide +kernel
theorem dL_cell_2 : decode cL_cell 2 = .ok (.arraylength, 1) := by decide +kernel
theorem dL_cell_3 : decode cL_cell 3 = .ok (.if_icmp .ge 9, 3) := by decide +kernel
theorem dL_cell_6 : decode cL_cell 6 = .ok (.aload_n 0, 1) := by decide +kernel
theorem dL_cell_7 : decode cL_cell 7 = .ok (.iload_n 1, 1) := by decide +kernel
theorem dL_cell_8 : decode cL_cell 8 = .ok (.iaload, 1) := by decide +kernel
theorem dL_cell_9 : decode cL_cell 9 = .ok (.goto 11, 3) := by decide +kernel
theorem dL_cell_12 : decode cL_cell 12 = .ok (.ldc 7, 2) := by decide +kernel
theorem dL_cell_14 : decode cL_cell 14 = .ok (.iload_n 1, 1) := by decide +kernel
theorem dL_cell_15 : decode cL_cell 15 = .ok (.sipush 907, 3) := by decide +kernel
theorem dL_cell_18 : decode cL_cell 18 = .ok (.iadd, 1) := by decide +kernel
theorem dL_cell_19 : decode cL_cell 19 = .ok (.imul, 1) := by decide +kernel
theorem dL_cell_20 : decode cL_cell 20 = .ok (.ireturn, 1) := by decide +kernel
theorem dL_up_0 : decode cL_up 0 = .ok (.iload_n 0, 1) := by decide +kernel
theorem dL_up_1 : decode cL_up 1 = .ok (.ldc 8, 2) := by decide +kernel
theorem dL_up_3 : decode cL_up 3 = .ok (.iand, 1) := by decide +kernel
theorem dL_up_4 : decode cL_up 4 = .ok (.iload_n 1, 1) := by decide +kernel
theorem dL_up_5 : decode cL_up 5 = .ok (.irem, 1) := by decide +kernel
theorem dL_up_6 : decode cL_up 6 = .ok (.ireturn, 1) := by decide +kernel
theorem dL_isStep_0 : decode cL_isStep 0 = .ok (.iload_n 1, 1) := by decide +kernel
theorem dL_isStep_1 : decode cL_isStep 1 = .ok (.iconst 4, 1) := by decide +kernel
theorem dL_isStep_2 : decode cL_isStep 2 = .ok (.ishr, 1) := by decide +kernel
theorem dL_isStep_3 : decode cL_isStep 3 = .ok (.istore_n 3, 1) := by decide +kernel
theorem dL_isStep_4 : decode cL_isStep 4 = .ok (.iload_n 3, 1) := by decide +kernel
theorem dL_isStep_5 : decode cL_isStep 5 = .ok (.iconst 2, 1) := by decide +kernel
theorem dL_isStep_6 : decode cL_isStep 6 = .ok (.invokestatic 9, 3) := by decide +kernel
theorem dL_isStep_9 : decode cL_isStep 9 = .ok (.istore 4, 2) := by decide +kernel
theorem dL_isStep_11 : decode cL_isStep 11 = .ok (.aload_n 0, 1) := by decide +kernel
theorem dL_isStep_12 : decode cL_isStep 12 = .ok (.iconst 2, 1) := by decide +kernel
theorem dL_isStep_13 : decode cL_isStep 13 = .ok (.invokevirtual 15, 3) := by decide +kernel
theorem dL_isStep_16 : decode cL_isStep 16 = .ok (.istore 5, 2) := by decide +kernel
theorem dL_isStep_18 : decode cL_isStep 18 = .ok (.iload_n 1, 1) := by decide +kernel
theorem dL_isStep_19 : decode cL_isStep 19 = .ok (.bipush 9, 2) := by decide +kernel
theorem dL_isStep_21 : decode cL_isStep 21 = .ok (.invokestatic 9, 3) := by decide +kernel
theorem dL_isStep_24 : decode cL_isStep 24 = .ok (.tableswitch 413 0 5 #[40, 124, 124, 124, 342, 375], 40) := by decide +kernel
theorem dL_isStep_64 : decode cL_isStep 64 = .ok (.iload_n 3, 1) := by decide +kernel
theorem dL_isStep_65 : decode cL_isStep 65 = .ok (.bipush 9, 2) := by decide +kernel
theorem dL_isStep_67 : decode cL_isStep 67 = .ok (.invokestatic 9, 3) := by decide +kernel
theorem dL_isStep_70 : decode cL_isStep 70 = .ok (.istore 6, 2) := by decide +kernel
theorem dL_isStep_72 : decode cL_isStep 72 = .ok (.iload_n 3, 1) := by decide +kernel
theorem dL_isStep_73 : decode cL_isStep 73 = .ok (.iconst 4, 1) := by decide +kernel
theorem dL_isStep_74 : decode cL_isStep 74 = .ok (.ishr, 1) := by decide +kernel
theorem dL_isStep_75 : decode cL_isStep 75 = .ok (.bipush 9, 2) := by decide +kernel
theorem dL_isStep_77 : decode cL_isStep 77 = .ok (.invokestatic 9, 3) := by decide +kernel
theorem dL_isStep_80 : decode cL_isStep 80 = .ok (.istore 7, 2) := by decide +kernel
theorem dL_isStep_82 : decode cL_isStep 82 = .ok (.aload_n 0, 1) := by decide +kernel
theorem dL_isStep_83 : decode cL_isStep 83 = .ok (.iload 6, 2) := by decide +kernel
theorem dL_isStep_85 : decode cL_isStep 85 = .ok (.iload 7, 2) := by decide +kernel
theorem dL_isStep_87 : decode cL_isStep 87 = .ok (.invokevirtual 21, 3) := by decide +kernel
theorem dL_isStep_90 : decode cL_isStep 90 = .ok (.iload 5, 2) := by decide +kernel
theorem dL_isStep_92 : decode cL_isStep 92 = .ok (.if_icmp .ne 54, 3) := by decide +kernel
theorem dL_isStep_95 : decode cL_isStep 95 = .ok (.aload_n 0, 1) := by decide +kernel
theorem dL_isStep_96 : decode cL_isStep 96 = .ok (.iconst 2, 1) := by decide +kernel
theorem dL_isStep_97 : decode cL_isStep 97 = .ok (.invokevirtual 15, 3) := by decide +kernel
theorem dL_isStep_100 : decode cL_isStep 100 = .ok (.iload 6, 2) := by decide +kernel
theorem dL_isStep_102 : decode cL_isStep 102 = .ok (.iload 7, 2) := by decide +kernel
theorem dL_isStep_104 : decode cL_isStep 104 = .ok (.iadd, 1) := by decide +kernel
theorem dL_isStep_105 : decode cL_isStep 105 = .ok (.if_icmp .ne 41, 3) := by decide +kernel
theorem dL_isStep_108 : decode cL_isStep 108 = .ok (.aload_n 0, 1) := by decide +kernel
theorem dL_isStep_109 : decode cL_isStep 109 = .ok (.iconst 0, 1) := by decide +kernel
theorem dL_isStep_110 : decode cL_isStep 110 = .ok (.iconst 0, 1) := by decide +kernel
theorem dL_isStep_111 : decode cL_isStep 111 = .ok (.invokevirtual 24, 3) := by decide +kernel
theorem dL_isStep_114 : decode cL_isStep 114 = .ok (.iconst 1, 1) := by decide +kernel
theorem dL_isStep_115 : decode cL_isStep 115 = .ok (.iload 6, 2) := by decide +kernel
theorem dL_isStep_117 : decode cL_isStep 117 = .ok (.ishl, 1) := by decide +kernel
theorem dL_isStep_118 : decode cL_isStep 118 = .ok (.iconst 1, 1) := by decide +kernel
theorem dL_isStep_119 : decode cL_isStep 119 = .ok (.isub, 1) := by decide +kernel
theorem dL_isStep_120 : decode cL_isStep 120 = .ok (.if_icmp .ne 26, 3) := by decide +kernel
theorem dL_isStep_123 : decode cL_isStep 123 = .ok (.aload_n 0, 1) := by decide +kernel
theorem dL_isStep_124 : decode cL_isStep 124 = .ok (.iconst 1, 1) := by decide +kernel
theorem dL_isStep_125 : decode cL_isStep 125 = .ok (.iconst 1, 1) := by decide +kernel
theorem dL_isStep_126 : decode cL_isStep 126 = .ok (.invokevirtual 24, 3) := by decide +kernel
theorem dL_isStep_129 : decode cL_isStep 129 = .ok (.iload 7, 2) := by decide +kernel
theorem dL_isStep_131 : decode cL_isStep 131 = .ok (.if_icmp .ne 15, 3) := by decide +kernel
theorem dL_isStep_134 : decode cL_isStep 134 = .ok (.aload_n 0, 1) := by decide +kernel
theorem dL_isStep_135 : decode cL_isStep 135 = .ok (.iconst 0, 1) := by decide +kernel
theorem dL_isStep_136 : decode cL_isStep 136 = .ok (.invokevirtual 15, 3) := by decide +kernel
theorem dL_isStep_139 : decode cL_isStep 139 = .ok (.ifCond .ne 7, 3) := by decide +kernel
theorem dL_isStep_142 : decode cL_isStep 142 = .ok (.iconst 1, 1) := by decide +kernel
theorem dL_isStep_143 : decode cL_isStep 143 = .ok (.goto 4, 3) := by decide +kernel
theorem dL_isStep_146 : decode cL_isStep 146 = .ok (.iconst 0, 1) := by decide +kernel
theorem dL_isStep_147 : decode cL_isStep 147 = .ok (.ireturn, 1) := by decide +kernel
theorem dL_isStep_148 : decode cL_isStep 148 = .ok (.aload_n 0, 1) := by decide +kernel
theorem dL_isStep_149 : decode cL_isStep 149 = .ok (.invokevirtual 27, 3) := by decide +kernel
theorem dL_isStep_152 : decode cL_isStep 152 = .ok (.ifCond .lt 30, 3) := by decide +kernel
theorem dL_isStep_155 : decode cL_isStep 155 = .ok (.aload_n 0, 1) := by decide +kernel
theorem dL_isStep_156 : decode cL_isStep 156 = .ok (.bipush 48, 2) := by decide +kernel
theorem dL_isStep_158 : decode cL_isStep 158 = .ok (.iload 4, 2) := by decide +kernel
theorem dL_isStep_160 : decode cL_isStep 160 = .ok (.iadd, 1) := by decide +kernel
theorem dL_isStep_161 : decode cL_isStep 161 = .ok (.i2l, 1) := by decide +kernel
theorem dL_isStep_162 : decode cL_isStep 162 = .ok (.invokevirtual 31, 3) := by decide +kernel
theorem dL_isStep_165 : decode cL_isStep 165 = .ok (.ifCond .le 17, 3) := by decide +kernel
theorem dL_isStep_168 : decode cL_isStep 168 = .ok (.aload_n 0, 1) := by decide +kernel
theorem dL_isStep_169 : decode cL_isStep 169 = .ok (.ldc2_w 35, 3) := by decide +kernel
theorem dL_isStep_172 : decode cL_isStep 172 = .ok (.invokevirtual 31, 3) := by decide +kernel
theorem dL_isStep_175 : decode cL_isStep 175 = .ok (.ifCond .le 7, 3) := by decide +kernel
theorem dL_isStep_178 : decode cL_isStep 178 = .ok (.iconst 1, 1) := by decide +kernel
theorem dL_isStep_179 : decode cL_isStep 179 = .ok (.goto 4, 3) := by decide +kernel
theorem dL_isStep_182 : decode cL_isStep 182 = .ok (.iconst 0, 1) := by decide +kernel
theorem dL_isStep_183 : decode cL_isStep 183 = .ok (.istore 6, 2) := by decide +kernel
theorem dL_isStep_185 : decode cL_isStep 185 = .ok (.iconst 1, 1) := by decide +kernel
theorem dL_isStep_186 : decode cL_isStep 186 = .ok (.iload_n 3, 1) := by decide +kernel
theorem dL_isStep_187 : decode cL_isStep 187 = .ok (.iconst 1, 1) := by decide +kernel
theorem dL_isStep_188 : decode cL_isStep 188 = .ok (.ishr, 1) := by decide +kernel
theorem dL_isStep_189 : decode cL_isStep 189 = .ok (.bipush 8, 2) := by decide +kernel
theorem dL_isStep_191 : decode cL_isStep 191 = .ok (.invokestatic 9, 3) := by decide +kernel
theorem dL_isStep_194 : decode cL_isStep 194 = .ok (.iadd, 1) := by decide +kernel
theorem dL_isStep_195 : decode cL_isStep 195 = .ok (.istore 7, 2) := by decide +kernel
theorem dL_isStep_197 : decode cL_isStep 197 = .ok (.iconst 1, 1) := by decide +kernel
theorem dL_isStep_198 : decode cL_isStep 198 = .ok (.iload_n 3, 1) := by decide +kernel
theorem dL_isStep_199 : decode cL_isStep 199 = .ok (.iconst 4, 1) := by decide +kernel
theorem dL_isStep_200 : decode cL_isStep 200 = .ok (.ishr, 1) := by decide +kernel
theorem dL_isStep_201 : decode cL_isStep 201 = .ok (.bipush 7, 2) := by decide +kernel
theorem dL_isStep_203 : decode cL_isStep 203 = .ok (.invokestatic 9, 3) := by decide +kernel
theorem dL_isStep_206 : decode cL_isStep 206 = .ok (.iadd, 1) := by decide +kernel
theorem dL_isStep_207 : decode cL_isStep 207 = .ok (.istore 8, 2) := by decide +kernel
theorem dL_isStep_209 : decode cL_isStep 209 = .ok (.iconst 0, 1) := by decide +kernel
theorem dL_isStep_210 : decode cL_isStep 210 = .ok (.istore 9, 2) := by decide +kernel
theorem dL_isStep_212 : decode cL_isStep 212 = .ok (.iload 9, 2) := by decide +kernel
theorem dL_isStep_214 : decode cL_isStep 214 = .ok (.iload 7, 2) := by decide +kernel
theorem dL_isStep_216 : decode cL_isStep 216 = .ok (.if_icmp .ge 89, 3) := by decide +kernel
theorem dL_isStep_219 : decode cL_isStep 219 = .ok (.iload_n 3, 1) := by decide +kernel
theorem dL_isStep_220 : decode cL_isStep 220 = .ok (.bipush 7, 2) := by decide +kernel
theorem dL_isStep_222 : decode cL_isStep 222 = .ok (.ishr, 1) := by decide +kernel
theorem dL_isStep_223 : decode cL_isStep 223 = .ok (.iconst 3, 1) := by decide +kernel
theorem dL_isStep_224 : decode cL_isStep 224 = .ok (.invokestatic 9, 3) := by decide +kernel
theorem dL_isStep_227 : decode cL_isStep 227 = .ok (.ifCond .le 8, 3) := by decide +kernel
theorem dL_isStep_230 : decode cL_isStep 230 = .ok (.iload 8, 2) := by decide +kernel
theorem dL_isStep_232 : decode cL_isStep 232 = .ok (.goto 14, 3) := by decide +kernel
theorem dL_isStep_235 : decode cL_isStep 235 = .ok (.iload_n 2, 1) := by decide +kernel
theorem dL_isStep_236 : decode cL_isStep 236 = .ok (.iconst 3, 1) := by decide +kernel
theorem dL_isStep_237 : decode cL_isStep 237 = .ok (.iload 9, 2) := by decide +kernel
theorem dL_isStep_239 : decode cL_isStep 239 = .ok (.imul, 1) := by decide +kernel
theorem dL_isStep_240 : decode cL_isStep 240 = .ok (.ishr, 1) := by decide +kernel
theorem dL_isStep_241 : decode cL_isStep 241 = .ok (.bipush 8, 2) := by decide +kernel
theorem dL_isStep_243 : decode cL_isStep 243 = .ok (.invokestatic 9, 3) := by decide +kernel
theorem dL_isStep_246 : decode cL_isStep 246 = .ok (.istore 10, 2) := by decide +kernel
theorem dL_isStep_248 : decode cL_isStep 248 = .ok (.iload 6, 2) := by decide +kernel
theorem dL_isStep_250 : decode cL_isStep 250 = .ok (.ifCond .eq 46, 3) := by decide +kernel
theorem dL_isStep_253 : decode cL_isStep 253 = .ok (.aload_n 0, 1) := by decide +kernel
theorem dL_isStep_254 : decode cL_isStep 254 = .ok (.bipush 48, 2) := by decide +kernel
theorem dL_isStep_256 : decode cL_isStep 256 = .ok (.iload 10, 2) := by decide +kernel
theorem dL_isStep_258 : decode cL_isStep 258 = .ok (.iadd, 1) := by decide +kernel
theorem dL_isStep_259 : decode cL_isStep 259 = .ok (.i2l, 1) := by decide +kernel
theorem dL_isStep_260 : decode cL_isStep 260 = .ok (.invokevirtual 31, 3) := by decide +kernel
theorem dL_isStep_263 : decode cL_isStep 263 = .ok (.ifCond .le 33, 3) := by decide +kernel
theorem dL_isStep_266 : decode cL_isStep 266 = .ok (.iload 10, 2) := by decide +kernel
theorem dL_isStep_268 : decode cL_isStep 268 = .ok (.ifCond .eq 24, 3) := by decide +kernel
theorem dL_isStep_271 : decode cL_isStep 271 = .ok (.iload_n 2, 1) := by decide +kernel
theorem dL_isStep_272 : decode cL_isStep 272 = .ok (.iload 9, 2) := by decide +kernel
theorem dL_isStep_274 : decode cL_isStep 274 = .ok (.ishr, 1) := by decide +kernel
theorem dL_isStep_275 : decode cL_isStep 275 = .ok (.iconst 5, 1) := by decide +kernel
theorem dL_isStep_276 : decode cL_isStep 276 = .ok (.invokestatic 9, 3) := by decide +kernel
theorem dL_isStep_279 : decode cL_isStep 279 = .ok (.ifCond .gt 13, 3) := by decide +kernel
theorem dL_isStep_282 : decode cL_isStep 282 = .ok (.aload_n 0, 1) := by decide +kernel
theorem dL_isStep_283 : decode cL_isStep 283 = .ok (.ldc2_w 37, 3) := by decide +kernel
theorem dL_isStep_286 : decode cL_isStep 286 = .ok (.invokevirtual 31, 3) := by decide +kernel
theorem dL_isStep_289 : decode cL_isStep 289 = .ok (.ifCond .le 7, 3) := by decide +kernel
theorem dL_isStep_292 : decode cL_isStep 292 = .ok (.iconst 1, 1) := by decide +kernel
theorem dL_isStep_293 : decode cL_isStep 293 = .ok (.goto 4, 3) := by decide +kernel
theorem dL_isStep_296 : decode cL_isStep 296 = .ok (.iconst 0, 1) := by decide +kernel
theorem dL_isStep_297 : decode cL_isStep 297 = .ok (.istore 6, 2) := by decide +kernel
theorem dL_isStep_299 : decode cL_isStep 299 = .ok (.iinc 9 1, 3) := by decide +kernel
theorem dL_isStep_302 : decode cL_isStep 302 = .ok (.goto (-90), 3) := by decide +kernel
theorem dL_isStep_305 : decode cL_isStep 305 = .ok (.iload 6, 2) := by decide +kernel
theorem dL_isStep_307 : decode cL_isStep 307 = .ok (.ifCond .eq 57, 3) := by decide +kernel
theorem dL_isStep_310 : decode cL_isStep 310 = .ok (.aload_n 0, 1) := by decide +kernel
theorem dL_isStep_311 : decode cL_isStep 311 = .ok (.invokevirtual 39, 3) := by decide +kernel
theorem dL_isStep_314 : decode cL_isStep 314 = .ok (.bipush (-6), 2) := by decide +kernel
theorem dL_isStep_316 : decode cL_isStep 316 = .ok (.if_icmp .ne 48, 3) := by decide +kernel
theorem dL_isStep_319 : decode cL_isStep 319 = .ok (.aload_n 0, 1) := by decide +kernel
theorem dL_isStep_320 : decode cL_isStep 320 = .ok (.invokevirtual 42, 3) := by decide +kernel
theorem dL_isStep_323 : decode cL_isStep 323 = .ok (.iload 4, 2) := by decide +kernel
theorem dL_isStep_325 : decode cL_isStep 325 = .ok (.if_icmp .ne 39, 3) := by decide +kernel
theorem dL_isStep_328 : decode cL_isStep 328 = .ok (.aload_n 0, 1) := by decide +kernel
theorem dL_isStep_329 : decode cL_isStep 329 = .ok (.iload 4, 2) := by decide +kernel
theorem dL_isStep_331 : decode cL_isStep 331 = .ok (.iconst 2, 1) := by decide +kernel
theorem dL_isStep_332 : decode cL_isStep 332 = .ok (.invokevirtual 24, 3) := by decide +kernel
theorem dL_isStep_335 : decode cL_isStep 335 = .ok (.iload 7, 2) := by decide +kernel
theorem dL_isStep_337 : decode cL_isStep 337 = .ok (.if_icmp .ne 27, 3) := by decide +kernel
theorem dL_isStep_340 : decode cL_isStep 340 = .ok (.aload_n 0, 1) := by decide +kernel
theorem dL_isStep_341 : decode cL_isStep 341 = .ok (.iload 4, 2) := by decide +kernel
theorem dL_isStep_343 : decode cL_isStep 343 = .ok (.iconst 3, 1) := by decide +kernel
theorem dL_isStep_344 : decode cL_isStep 344 = .ok (.invokevirtual 24, 3) := by decide +kernel
theorem dL_isStep_347 : decode cL_isStep 347 = .ok (.ifCond .ne 17, 3) := by decide +kernel
theorem dL_isStep_350 : decode cL_isStep 350 = .ok (.aload_n 0, 1) := by decide +kernel
theorem dL_isStep_351 : decode cL_isStep 351 = .ok (.iconst 2, 1) := by decide +kernel
theorem dL_isStep_352 : decode cL_isStep 352 = .ok (.invokevirtual 15, 3) := by decide +kernel
theorem dL_isStep_355 : decode cL_isStep 355 = .ok (.iload 5, 2) := by decide +kernel
theorem dL_isStep_357 : decode cL_isStep 357 = .ok (.if_icmp .ne 7, 3) := by decide +kernel
theorem dL_isStep_360 : decode cL_isStep 360 = .ok (.iconst 1, 1) := by decide +kernel
theorem dL_isStep_361 : decode cL_isStep 361 = .ok (.goto 4, 3) := by decide +kernel
theorem dL_isStep_364 : decode cL_isStep 364 = .ok (.iconst 0, 1) := by decide +kernel
theorem dL_isStep_365 : decode cL_isStep 365 = .ok (.ireturn, 1) := by decide +kernel
theorem dL_isStep_366 : decode cL_isStep 366 = .ok (.aload_n 0, 1) := by decide +kernel
theorem dL_isStep_367 : decode cL_isStep 367 = .ok (.iload 4, 2) := by decide +kernel
theorem dL_isStep_369 : decode cL_isStep 369 = .ok (.iload_n 3, 1) := by decide +kernel
theorem dL_isStep_370 : decode cL_isStep 370 = .ok (.iconst 1, 1) := by decide +kernel
theorem dL_isStep_371 : decode cL_isStep 371 = .ok (.ishr, 1) := by decide +kernel
theorem dL_isStep_372 : decode cL_isStep 372 = .ok (.bipush 8, 2) := by decide +kernel
theorem dL_isStep_374 : decode cL_isStep 374 = .ok (.invokestatic 9, 3) := by decide +kernel
theorem dL_isStep_377 : decode cL_isStep 377 = .ok (.invokevirtual 45, 3) := by decide +kernel
theorem dL_isStep_380 : decode cL_isStep 380 = .ok (.ifCond .eq 17, 3) := by decide +kernel
theorem dL_isStep_383 : decode cL_isStep 383 = .ok (.aload_n 0, 1) := by decide +kernel
theorem dL_isStep_384 : decode cL_isStep 384 = .ok (.iconst 2, 1) := by decide +kernel
theorem dL_isStep_385 : decode cL_isStep 385 = .ok (.invokevirtual 15, 3) := by decide +kernel
theorem dL_isStep_388 : decode cL_isStep 388 = .ok (.iload 5, 2) := by decide +kernel
theorem dL_isStep_390 : decode cL_isStep 390 = .ok (.if_icmp .ne 7, 3) := by decide +kernel
theorem dL_isStep_393 : decode cL_isStep 393 = .ok (.iconst 1, 1) := by decide +kernel
theorem dL_isStep_394 : decode cL_isStep 394 = .ok (.goto 4, 3) := by decide +kernel
theorem dL_isStep_397 : decode cL_isStep 397 = .ok (.iconst 0, 1) := by decide +kernel
theorem dL_isStep_398 : decode cL_isStep 398 = .ok (.ireturn, 1) := by decide +kernel
theorem dL_isStep_399 : decode cL_isStep 399 = .ok (.aload_n 0, 1) := by decide +kernel
theorem dL_isStep_400 : decode cL_isStep 400 = .ok (.iload 4, 2) := by decide +kernel
theorem dL_isStep_402 : decode cL_isStep 402 = .ok (.iload_n 3, 1) := by decide +kernel
theorem dL_isStep_403 : decode cL_isStep 403 = .ok (.iconst 1, 1) := by decide +kernel
theorem dL_isStep_404 : decode cL_isStep 404 = .ok (.ishr, 1) := by decide +kernel
theorem dL_isStep_405 : decode cL_isStep 405 = .ok (.bipush 8, 2) := by decide +kernel
theorem dL_isStep_407 : decode cL_isStep 407 = .ok (.invokestatic 9, 3) := by decide +kernel
theorem dL_isStep_410 : decode cL_isStep 410 = .ok (.invokevirtual 48, 3) := by decide +kernel
theorem dL_isStep_413 : decode cL_isStep 413 = .ok (.aload_n 0, 1) := by decide +kernel
theorem dL_isStep_414 : decode cL_isStep 414 = .ok (.iconst 2, 1) := by decide +kernel
theorem dL_isStep_415 : decode cL_isStep 415 = .ok (.invokevirtual 15, 3) := by decide +kernel
theorem dL_isStep_418 : decode cL_isStep 418 = .ok (.if_icmp .gt 17, 3) := by decide +kernel
theorem dL_isStep_421 : decode cL_isStep 421 = .ok (.aload_n 0, 1) := by decide +kernel
theorem dL_isStep_422 : decode cL_isStep 422 = .ok (.iconst 2, 1) := by decide +kernel
theorem dL_isStep_423 : decode cL_isStep 423 = .ok (.invokevirtual 15, 3) := by decide +kernel
theorem dL_isStep_426 : decode cL_isStep 426 = .ok (.iload 5, 2) := by decide +kernel
theorem dL_isStep_428 : decode cL_isStep 428 = .ok (.if_icmp .ne 7, 3) := by decide +kernel
theorem dL_isStep_431 : decode cL_isStep 431 = .ok (.iconst 1, 1) := by decide +kernel
theorem dL_isStep_432 : decode cL_isStep 432 = .ok (.goto 4, 3) := by decide +kernel
theorem dL_isStep_435 : decode cL_isStep 435 = .ok (.iconst 0, 1) := by decide +kernel
theorem dL_isStep_436 : decode cL_isStep 436 = .ok (.ireturn, 1) := by decide +kernel
theorem dL_isStep_437 : decode cL_isStep 437 = .ok (.iconst 1, 1) := by decide +kernel
theorem dL_isStep_438 : decode cL_isStep 438 = .ok (.iload_n 3, 1) := by decide +kernel
theorem dL_isStep_439 : decode cL_isStep 439 = .ok (.bipush 20, 2) := by decide +kernel
theorem dL_isStep_441 : decode cL_isStep 441 = .ok (.invokestatic 9, 3) := by decide +kernel
theorem dL_isStep_444 : decode cL_isStep 444 = .ok (.iadd, 1) := by decide +kernel
theorem dL_isStep_445 : decode cL_isStep 445 = .ok (.istore 6, 2) := by decide +kernel
theorem dL_isStep_447 : decode cL_isStep 447 = .ok (.aload_n 0, 1) := by decide +kernel
theorem dL_isStep_448 : decode cL_isStep 448 = .ok (.iconst 1, 1) := by decide +kernel
theorem dL_isStep_449 : decode cL_isStep 449 = .ok (.invokevirtual 15, 3) := by decide +kernel
theorem dL_isStep_452 : decode cL_isStep 452 = .ok (.istore 7, 2) := by decide +kernel
theorem dL_isStep_454 : decode cL_isStep 454 = .ok (.aload_n 0, 1) := by decide +kernel
theorem dL_isStep_455 : decode cL_isStep 455 = .ok (.iconst 0, 1) := by decide +kernel
theorem dL_isStep_456 : decode cL_isStep 456 = .ok (.iconst 4, 1) := by decide +kernel
theorem dL_isStep_457 : decode cL_isStep 457 = .ok (.invokevirtual 24, 3) := by decide +kernel
theorem dL_isStep_460 : decode cL_isStep 460 = .ok (.aload_n 0, 1) := by decide +kernel
theorem dL_isStep_461 : decode cL_isStep 461 = .ok (.iconst 0, 1) := by decide +kernel
theorem dL_isStep_462 : decode cL_isStep 462 = .ok (.iconst 5, 1) := by decide +kernel
theorem dL_isStep_463 : decode cL_isStep 463 = .ok (.invokevirtual 24, 3) := by decide +kernel
theorem dL_isStep_466 : decode cL_isStep 466 = .ok (.iadd, 1) := by decide +kernel
theorem dL_isStep_467 : decode cL_isStep 467 = .ok (.aload_n 0, 1) := by decide +kernel
theorem dL_isStep_468 : decode cL_isStep 468 = .ok (.iconst 1, 1) := by decide +kernel
theorem dL_isStep_469 : decode cL_isStep 469 = .ok (.iconst 4, 1) := by decide +kernel
theorem dL_isStep_470 : decode cL_isStep 470 = .ok (.invokevirtual 24, 3) := by decide +kernel
theorem dL_isStep_473 : decode cL_isStep 473 = .ok (.iadd, 1) := by decide +kernel
theorem dL_isStep_474 : decode cL_isStep 474 = .ok (.aload_n 0, 1) := by decide +kernel
theorem dL_isStep_475 : decode cL_isStep 475 = .ok (.iconst 1, 1) := by decide +kernel
theorem dL_isStep_476 : decode cL_isStep 476 = .ok (.iconst 5, 1) := by decide +kernel
theorem dL_isStep_477 : decode cL_isStep 477 = .ok (.invokevirtual 24, 3) := by decide +kernel
theorem dL_isStep_480 : decode cL_isStep 480 = .ok (.iadd, 1) := by decide +kernel
theorem dL_isStep_481 : decode cL_isStep 481 = .ok (.istore 8, 2) := by decide +kernel
theorem dL_isStep_483 : decode cL_isStep 483 = .ok (.aload_n 0, 1) := by decide +kernel
theorem dL_isStep_484 : decode cL_isStep 484 = .ok (.invokevirtual 51, 3) := by decide +kernel
theorem dL_isStep_487 : decode cL_isStep 487 = .ok (.istore 9, 2) := by decide +kernel
theorem dL_isStep_489 : decode cL_isStep 489 = .ok (.aload_n 0, 1) := by decide +kernel
theorem dL_isStep_490 : decode cL_isStep 490 = .ok (.iconst 0, 1) := by decide +kernel
theorem dL_isStep_491 : decode cL_isStep 491 = .ok (.iload 6, 2) := by decide +kernel
theorem dL_isStep_493 : decode cL_isStep 493 = .ok (.invokevirtual 54, 3) := by decide +kernel
theorem dL_isStep_496 : decode cL_isStep 496 = .ok (.istore 10, 2) := by decide +kernel
theorem dL_isStep_498 : decode cL_isStep 498 = .ok (.aload_n 0, 1) := by decide +kernel
theorem dL_isStep_499 : decode cL_isStep 499 = .ok (.iconst 1, 1) := by decide +kernel
theorem dL_isStep_500 : decode cL_isStep 500 = .ok (.iload 6, 2) := by decide +kernel
theorem dL_isStep_502 : decode cL_isStep 502 = .ok (.invokevirtual 54, 3) := by decide +kernel
theorem dL_isStep_505 : decode cL_isStep 505 = .ok (.istore 11, 2) := by decide +kernel
theorem dL_isStep_507 : decode cL_isStep 507 = .ok (.aload_n 0, 1) := by decide +kernel
theorem dL_isStep_508 : decode cL_isStep 508 = .ok (.iload 6, 2) := by decide +kernel
theorem dL_isStep_510 : decode cL_isStep 510 = .ok (.invokevirtual 57, 3) := by decide +kernel
theorem dL_isStep_513 : decode cL_isStep 513 = .ok (.istore 12, 2) := by decide +kernel
theorem dL_isStep_515 : decode cL_isStep 515 = .ok (.aload_n 0, 1) := by decide +kernel
theorem dL_isStep_516 : decode cL_isStep 516 = .ok (.iconst 1, 1) := by decide +kernel
theorem dL_isStep_517 : decode cL_isStep 517 = .ok (.invokevirtual 15, 3) := by decide +kernel
theorem dL_isStep_520 : decode cL_isStep 520 = .ok (.iload 7, 2) := by decide +kernel
theorem dL_isStep_522 : decode cL_isStep 522 = .ok (.iload 12, 2) := by decide +kernel
theorem dL_isStep_524 : decode cL_isStep 524 = .ok (.iadd, 1) := by decide +kernel
theorem dL_isStep_525 : decode cL_isStep 525 = .ok (.if_icmp .ne 74, 3) := by decide +kernel
theorem dL_isStep_528 : decode cL_isStep 528 = .ok (.aload_n 0, 1) := by decide +kernel
theorem dL_isStep_529 : decode cL_isStep 529 = .ok (.iconst 0, 1) := by decide +kernel
theorem dL_isStep_530 : decode cL_isStep 530 = .ok (.iconst 4, 1) := by decide +kernel
theorem dL_isStep_531 : decode cL_isStep 531 = .ok (.invokevirtual 24, 3) := by decide +kernel
theorem dL_isStep_534 : decode cL_isStep 534 = .ok (.aload_n 0, 1) := by decide +kernel
theorem dL_isStep_535 : decode cL_isStep 535 = .ok (.iconst 0, 1) := by decide +kernel
theorem dL_isStep_536 : decode cL_isStep 536 = .ok (.iconst 5, 1) := by decide +kernel
theorem dL_isStep_537 : decode cL_isStep 537 = .ok (.invokevirtual 24, 3) := by decide +kernel
theorem dL_isStep_540 : decode cL_isStep 540 = .ok (.iadd, 1) := by decide +kernel
theorem dL_isStep_541 : decode cL_isStep 541 = .ok (.aload_n 0, 1) := by decide +kernel
theorem dL_isStep_542 : decode cL_isStep 542 = .ok (.iconst 1, 1) := by decide +kernel
theorem dL_isStep_543 : decode cL_isStep 543 = .ok (.iconst 4, 1) := by decide +kernel
theorem dL_isStep_544 : decode cL_isStep 544 = .ok (.invokevirtual 24, 3) := by decide +kernel
theorem dL_isStep_547 : decode cL_isStep 547 = .ok (.iadd, 1) := by decide +kernel
theorem dL_isStep_548 : decode cL_isStep 548 = .ok (.aload_n 0, 1) := by decide +kernel
theorem dL_isStep_549 : decode cL_isStep 549 = .ok (.iconst 1, 1) := by decide +kernel
theorem dL_isStep_550 : decode cL_isStep 550 = .ok (.iconst 5, 1) := by decide +kernel
theorem dL_isStep_551 : decode cL_isStep 551 = .ok (.invokevirtual 24, 3) := by decide +kernel
theorem dL_isStep_554 : decode cL_isStep 554 = .ok (.iadd, 1) := by decide +kernel
theorem dL_isStep_555 : decode cL_isStep 555 = .ok (.iload 8, 2) := by decide +kernel
theorem dL_isStep_557 : decode cL_isStep 557 = .ok (.iload 12, 2) := by decide +kernel
theorem dL_isStep_559 : decode cL_isStep 559 = .ok (.iadd, 1) := by decide +kernel
theorem dL_isStep_560 : decode cL_isStep 560 = .ok (.if_icmp .ne 39, 3) := by decide +kernel
theorem dL_isStep_563 : decode cL_isStep 563 = .ok (.aload_n 0, 1) := by decide +kernel
theorem dL_isStep_564 : decode cL_isStep 564 = .ok (.iconst 0, 1) := by decide +kernel
theorem dL_isStep_565 : decode cL_isStep 565 = .ok (.iconst 0, 1) := by decide +kernel
theorem dL_isStep_566 : decode cL_isStep 566 = .ok (.invokevirtual 24, 3) := by decide +kernel
theorem dL_isStep_569 : decode cL_isStep 569 = .ok (.iload 10, 2) := by decide +kernel
theorem dL_isStep_571 : decode cL_isStep 571 = .ok (.if_icmp .ne 28, 3) := by decide +kernel
theorem dL_isStep_574 : decode cL_isStep 574 = .ok (.aload_n 0, 1) := by decide +kernel
theorem dL_isStep_575 : decode cL_isStep 575 = .ok (.iconst 1, 1) := by decide +kernel
theorem dL_isStep_576 : decode cL_isStep 576 = .ok (.iconst 0, 1) := by decide +kernel
theorem dL_isStep_577 : decode cL_isStep 577 = .ok (.invokevirtual 24, 3) := by decide +kernel
theorem dL_isStep_580 : decode cL_isStep 580 = .ok (.iload 11, 2) := by decide +kernel
theorem dL_isStep_582 : decode cL_isStep 582 = .ok (.if_icmp .ne 17, 3) := by decide +kernel
theorem dL_isStep_585 : decode cL_isStep 585 = .ok (.aload_n 0, 1) := by decide +kernel
theorem dL_isStep_586 : decode cL_isStep 586 = .ok (.iconst 2, 1) := by decide +kernel
theorem dL_isStep_587 : decode cL_isStep 587 = .ok (.invokevirtual 15, 3) := by decide +kernel
theorem dL_isStep_590 : decode cL_isStep 590 = .ok (.iload 5, 2) := by decide +kernel
theorem dL_isStep_592 : decode cL_isStep 592 = .ok (.if_icmp .ne 7, 3) := by decide +kernel
theorem dL_isStep_595 : decode cL_isStep 595 = .ok (.iconst 1, 1) := by decide +kernel
theorem dL_isStep_596 : decode cL_isStep 596 = .ok (.goto 4, 3) := by decide +kernel
theorem dL_isStep_599 : decode cL_isStep 599 = .ok (.iconst 0, 1) := by decide +kernel
theorem dL_isStep_600 : decode cL_isStep 600 = .ok (.istore 13, 2) := by decide +kernel
theorem dL_isStep_602 : decode cL_isStep 602 = .ok (.iload 13, 2) := by decide +kernel
theorem dL_isStep_604 : decode cL_isStep 604 = .ok (.ifCond .eq 37, 3) := by decide +kernel
theorem dL_isStep_607 : decode cL_isStep 607 = .ok (.iload 12, 2) := by decide +kernel
theorem dL_isStep_609 : decode cL_isStep 609 = .ok (.ifCond .le 7, 3) := by decide +kernel
theorem dL_isStep_612 : decode cL_isStep 612 = .ok (.iconst 1, 1) := by decide +kernel
theorem dL_isStep_613 : decode cL_isStep 613 = .ok (.goto 4, 3) := by decide +kernel
theorem dL_isStep_616 : decode cL_isStep 616 = .ok (.iconst 0, 1) := by decide +kernel
theorem dL_isStep_617 : decode cL_isStep 617 = .ok (.iload 9, 2) := by decide +kernel
theorem dL_isStep_619 : decode cL_isStep 619 = .ok (.ifCond .lt 14, 3) := by decide +kernel
theorem dL_isStep_622 : decode cL_isStep 622 = .ok (.iload 9, 2) := by decide +kernel
theorem dL_isStep_624 : decode cL_isStep 624 = .ok (.iload 6, 2) := by decide +kernel
theorem dL_isStep_626 : decode cL_isStep 626 = .ok (.if_icmp .ge 7, 3) := by decide +kernel
theorem dL_isStep_629 : decode cL_isStep 629 = .ok (.iconst 1, 1) := by decide +kernel
theorem dL_isStep_630 : decode cL_isStep 630 = .ok (.goto 4, 3) := by decide +kernel
theorem dL_isStep_633 : decode cL_isStep 633 = .ok (.iconst 0, 1) := by decide +kernel
theorem dL_isStep_634 : decode cL_isStep 634 = .ok (.if_icmp .ne 7, 3) := by decide +kernel
theorem dL_isStep_637 : decode cL_isStep 637 = .ok (.iconst 1, 1) := by decide +kernel
theorem dL_isStep_638 : decode cL_isStep 638 = .ok (.goto 4, 3) := by decide +kernel
theorem dL_isStep_641 : decode cL_isStep 641 = .ok (.iconst 0, 1) := by decide +kernel
theorem dL_isStep_642 : decode cL_isStep 642 = .ok (.ireturn, 1) := by decide +kernel
theorem dL_isRound_0 : decode cL_isRound 0 = .ok (.aload_n 0, 1) := by decide +kernel
theorem dL_isRound_1 : decode cL_isRound 1 = .ok (.invokevirtual 60, 3) := by decide +kernel
theorem dL_isRound_4 : decode cL_isRound 4 = .ok (.istore_n 1, 1) := by decide +kernel
theorem dL_isRound_5 : decode cL_isRound 5 = .ok (.aload_n 0, 1) := by decide +kernel
theorem dL_isRound_6 : decode cL_isRound 6 = .ok (.invokevirtual 51, 3) := by decide +kernel
theorem dL_isRound_9 : decode cL_isRound 9 = .ok (.istore_n 2, 1) := by decide +kernel
theorem dL_isRound_10 : decode cL_isRound 10 = .ok (.iload_n 1, 1) := by decide +kernel
theorem dL_isRound_11 : decode cL_isRound 11 = .ok (.ifCond .ge 15, 3) := by decide +kernel
theorem dL_isRound_14 : decode cL_isRound 14 = .ok (.iload_n 1, 1) := by decide +kernel
theorem dL_isRound_15 : decode cL_isRound 15 = .ok (.bipush (-6), 2) := by decide +kernel
theorem dL_isRound_17 : decode cL_isRound 17 = .ok (.if_icmp .ne 7, 3) := by decide +kernel
theorem dL_isRound_20 : decode cL_isRound 20 = .ok (.iconst 1, 1) := by decide +kernel
theorem dL_isRound_21 : decode cL_isRound 21 = .ok (.goto 4, 3) := by decide +kernel
theorem dL_isRound_24 : decode cL_isRound 24 = .ok (.iconst 0, 1) := by decide +kernel
theorem dL_isRound_25 : decode cL_isRound 25 = .ok (.ireturn, 1) := by decide +kernel
theorem dL_isRound_26 : decode cL_isRound 26 = .ok (.iload_n 2, 1) := by decide +kernel
theorem dL_isRound_27 : decode cL_isRound 27 = .ok (.bipush (-6), 2) := by decide +kernel
theorem dL_isRound_29 : decode cL_isRound 29 = .ok (.if_icmp .ne 19, 3) := by decide +kernel
theorem dL_isRound_32 : decode cL_isRound 32 = .ok (.iload_n 1, 1) := by decide +kernel
theorem dL_isRound_33 : decode cL_isRound 33 = .ok (.iconst 1, 1) := by decide +kernel
theorem dL_isRound_34 : decode cL_isRound 34 = .ok (.if_icmp .lt 14, 3) := by decide +kernel
theorem dL_isRound_37 : decode cL_isRound 37 = .ok (.iload_n 1, 1) := by decide +kernel
theorem dL_isRound_38 : decode cL_isRound 38 = .ok (.sipush 1000, 3) := by decide +kernel
theorem dL_isRound_41 : decode cL_isRound 41 = .ok (.if_icmp .gt 7, 3) := by decide +kernel
theorem dL_isRound_44 : decode cL_isRound 44 = .ok (.iconst 1, 1) := by decide +kernel
theorem dL_isRound_45 : decode cL_isRound 45 = .ok (.goto 4, 3) := by decide +kernel
theorem dL_isRound_48 : decode cL_isRound 48 = .ok (.iconst 0, 1) := by decide +kernel
theorem dL_isRound_49 : decode cL_isRound 49 = .ok (.istore_n 3, 1) := by decide +kernel
theorem dL_isRound_50 : decode cL_isRound 50 = .ok (.iload_n 1, 1) := by decide +kernel
theorem dL_isRound_51 : decode cL_isRound 51 = .ok (.bipush 100, 2) := by decide +kernel
theorem dL_isRound_53 : decode cL_isRound 53 = .ok (.if_icmp .gt 70, 3) := by decide +kernel
theorem dL_isRound_56 : decode cL_isRound 56 = .ok (.iload_n 3, 1) := by decide +kernel
theorem dL_isRound_57 : decode cL_isRound 57 = .ok (.ifCond .eq 64, 3) := by decide +kernel
theorem dL_isRound_60 : decode cL_isRound 60 = .ok (.aload_n 0, 1) := by decide +kernel
theorem dL_isRound_61 : decode cL_isRound 61 = .ok (.iconst 0, 1) := by decide +kernel
theorem dL_isRound_62 : decode cL_isRound 62 = .ok (.iload_n 1, 1) := by decide +kernel
theorem dL_isRound_63 : decode cL_isRound 63 = .ok (.invokevirtual 54, 3) := by decide +kernel
theorem dL_isRound_66 : decode cL_isRound 66 = .ok (.aload_n 0, 1) := by decide +kernel
theorem dL_isRound_67 : decode cL_isRound 67 = .ok (.iconst 0, 1) := by decide +kernel
theorem dL_isRound_68 : decode cL_isRound 68 = .ok (.iconst 0, 1) := by decide +kernel
theorem dL_isRound_69 : decode cL_isRound 69 = .ok (.invokevirtual 24, 3) := by decide +kernel
theorem dL_isRound_72 : decode cL_isRound 72 = .ok (.if_icmp .ne 49, 3) := by decide +kernel
theorem dL_isRound_75 : decode cL_isRound 75 = .ok (.aload_n 0, 1) := by decide +kernel
theorem dL_isRound_76 : decode cL_isRound 76 = .ok (.iconst 1, 1) := by decide +kernel
theorem dL_isRound_77 : decode cL_isRound 77 = .ok (.iconst 2, 1) := by decide +kernel
theorem dL_isRound_78 : decode cL_isRound 78 = .ok (.iload_n 1, 1) := by decide +kernel
theorem dL_isRound_79 : decode cL_isRound 79 = .ok (.imul, 1) := by decide +kernel
theorem dL_isRound_80 : decode cL_isRound 80 = .ok (.invokevirtual 54, 3) := by decide +kernel
theorem dL_isRound_83 : decode cL_isRound 83 = .ok (.aload_n 0, 1) := by decide +kernel
theorem dL_isRound_84 : decode cL_isRound 84 = .ok (.iconst 1, 1) := by decide +kernel
theorem dL_isRound_85 : decode cL_isRound 85 = .ok (.iconst 0, 1) := by decide +kernel
theorem dL_isRound_86 : decode cL_isRound 86 = .ok (.invokevirtual 24, 3) := by decide +kernel
theorem dL_isRound_89 : decode cL_isRound 89 = .ok (.if_icmp .ne 32, 3) := by decide +kernel
theorem dL_isRound_92 : decode cL_isRound 92 = .ok (.aload_n 0, 1) := by decide +kernel
theorem dL_isRound_93 : decode cL_isRound 93 = .ok (.iconst 2, 1) := by decide +kernel
theorem dL_isRound_94 : decode cL_isRound 94 = .ok (.iload_n 1, 1) := by decide +kernel
theorem dL_isRound_95 : decode cL_isRound 95 = .ok (.imul, 1) := by decide +kernel
theorem dL_isRound_96 : decode cL_isRound 96 = .ok (.invokevirtual 57, 3) := by decide +kernel
theorem dL_isRound_99 : decode cL_isRound 99 = .ok (.ifCond .ne 22, 3) := by decide +kernel
theorem dL_isRound_102 : decode cL_isRound 102 = .ok (.aload_n 0, 1) := by decide +kernel
theorem dL_isRound_103 : decode cL_isRound 103 = .ok (.invokevirtual 60, 3) := by decide +kernel
theorem dL_isRound_106 : decode cL_isRound 106 = .ok (.iload_n 1, 1) := by decide +kernel
theorem dL_isRound_107 : decode cL_isRound 107 = .ok (.if_icmp .ne 14, 3) := by decide +kernel
theorem dL_isRound_110 : decode cL_isRound 110 = .ok (.aload_n 0, 1) := by decide +kernel
theorem dL_isRound_111 : decode cL_isRound 111 = .ok (.invokevirtual 63, 3) := by decide +kernel
theorem dL_isRound_114 : decode cL_isRound 114 = .ok (.ifCond .lt 7, 3) := by decide +kernel
theorem dL_isRound_117 : decode cL_isRound 117 = .ok (.iconst 1, 1) := by decide +kernel
theorem dL_isRound_118 : decode cL_isRound 118 = .ok (.goto 4, 3) := by decide +kernel
theorem dL_isRound_121 : decode cL_isRound 121 = .ok (.iconst 0, 1) := by decide +kernel
theorem dL_isRound_122 : decode cL_isRound 122 = .ok (.istore_n 3, 1) := by decide +kernel
theorem dL_isRound_123 : decode cL_isRound 123 = .ok (.iload_n 3, 1) := by decide +kernel
theorem dL_isRound_124 : decode cL_isRound 124 = .ok (.ifCond .eq 36, 3) := by decide +kernel
theorem dL_isRound_127 : decode cL_isRound 127 = .ok (.aload_n 0, 1) := by decide +kernel
theorem dL_isRound_128 : decode cL_isRound 128 = .ok (.iconst 2, 1) := by decide +kernel
theorem dL_isRound_129 : decode cL_isRound 129 = .ok (.invokevirtual 15, 3) := by decide +kernel
theorem dL_isRound_132 : decode cL_isRound 132 = .ok (.aload_n 0, 1) := by decide +kernel
theorem dL_isRound_133 : decode cL_isRound 133 = .ok (.iconst 1, 1) := by decide +kernel
theorem dL_isRound_134 : decode cL_isRound 134 = .ok (.invokevirtual 15, 3) := by decide +kernel
theorem dL_isRound_137 : decode cL_isRound 137 = .ok (.if_icmp .gt 19, 3) := by decide +kernel
theorem dL_isRound_140 : decode cL_isRound 140 = .ok (.aload_n 0, 1) := by decide +kernel
theorem dL_isRound_141 : decode cL_isRound 141 = .ok (.iconst 0, 1) := by decide +kernel
theorem dL_isRound_142 : decode cL_isRound 142 = .ok (.iconst 0, 1) := by decide +kernel
theorem dL_isRound_143 : decode cL_isRound 143 = .ok (.invokevirtual 24, 3) := by decide +kernel
theorem dL_isRound_146 : decode cL_isRound 146 = .ok (.aload_n 0, 1) := by decide +kernel
theorem dL_isRound_147 : decode cL_isRound 147 = .ok (.iconst 1, 1) := by decide +kernel
theorem dL_isRound_148 : decode cL_isRound 148 = .ok (.iconst 0, 1) := by decide +kernel
theorem dL_isRound_149 : decode cL_isRound 149 = .ok (.invokevirtual 24, 3) := by decide +kernel
theorem dL_isRound_152 : decode cL_isRound 152 = .ok (.iadd, 1) := by decide +kernel
theorem dL_isRound_153 : decode cL_isRound 153 = .ok (.ifCond .ne 7, 3) := by decide +kernel
theorem dL_isRound_156 : decode cL_isRound 156 = .ok (.iconst 1, 1) := by decide +kernel
theorem dL_isRound_157 : decode cL_isRound 157 = .ok (.goto 4, 3) := by decide +kernel
theorem dL_isRound_160 : decode cL_isRound 160 = .ok (.iconst 0, 1) := by decide +kernel
theorem dL_isRound_161 : decode cL_isRound 161 = .ok (.ireturn, 1) := by decide +kernel
theorem dL_isThrown_0 : decode cL_isThrown 0 = .ok (.new 16, 3) := by decide +kernel
theorem dL_isThrown_3 : decode cL_isThrown 3 = .ok (.dup, 1) := by decide +kernel
theorem dL_isThrown_4 : decode cL_isThrown 4 = .ok (.invokespecial 66, 3) := by decide +kernel
theorem dL_isThrown_7 : decode cL_isThrown 7 = .ok (.astore_n 2, 1) := by decide +kernel
theorem dL_isThrown_8 : decode cL_isThrown 8 = .ok (.new 16, 3) := by decide +kernel
theorem dL_isThrown_11 : decode cL_isThrown 11 = .ok (.dup, 1) := by decide +kernel
theorem dL_isThrown_12 : decode cL_isThrown 12 = .ok (.invokespecial 66, 3) := by decide +kernel
theorem dL_isThrown_15 : decode cL_isThrown 15 = .ok (.astore_n 3, 1) := by decide +kernel
theorem dL_isThrown_16 : decode cL_isThrown 16 = .ok (.iconst 1, 1) := by decide +kernel
theorem dL_isThrown_17 : decode cL_isThrown 17 = .ok (.iload_n 0, 1) := by decide +kernel
theorem dL_isThrown_18 : decode cL_isThrown 18 = .ok (.bipush 6, 2) := by decide +kernel
theorem dL_isThrown_20 : decode cL_isThrown 20 = .ok (.invokestatic 9, 3) := by decide +kernel
theorem dL_isThrown_23 : decode cL_isThrown 23 = .ok (.iadd, 1) := by decide +kernel
theorem dL_isThrown_24 : decode cL_isThrown 24 = .ok (.istore 4, 2) := by decide +kernel
theorem dL_isThrown_26 : decode cL_isThrown 26 = .ok (.aload_n 2, 1) := by decide +kernel
theorem dL_isThrown_27 : decode cL_isThrown 27 = .ok (.ldc2_w 67, 3) := by decide +kernel
theorem dL_isThrown_30 : decode cL_isThrown 30 = .ok (.invokevirtual 31, 3) := by decide +kernel
theorem dL_isThrown_33 : decode cL_isThrown 33 = .ok (.ifCond .le 17, 3) := by decide +kernel
theorem dL_isThrown_36 : decode cL_isThrown 36 = .ok (.aload_n 2, 1) := by decide +kernel
theorem dL_isThrown_37 : decode cL_isThrown 37 = .ok (.ldc2_w 35, 3) := by decide +kernel
theorem dL_isThrown_40 : decode cL_isThrown 40 = .ok (.invokevirtual 31, 3) := by decide +kernel
theorem dL_isThrown_43 : decode cL_isThrown 43 = .ok (.ifCond .le 7, 3) := by decide +kernel
theorem dL_isThrown_46 : decode cL_isThrown 46 = .ok (.iconst 1, 1) := by decide +kernel
theorem dL_isThrown_47 : decode cL_isThrown 47 = .ok (.goto 4, 3) := by decide +kernel
theorem dL_isThrown_50 : decode cL_isThrown 50 = .ok (.iconst 0, 1) := by decide +kernel
theorem dL_isThrown_51 : decode cL_isThrown 51 = .ok (.istore 5, 2) := by decide +kernel
theorem dL_isThrown_53 : decode cL_isThrown 53 = .ok (.iconst 0, 1) := by decide +kernel
theorem dL_isThrown_54 : decode cL_isThrown 54 = .ok (.istore 6, 2) := by decide +kernel
theorem dL_isThrown_56 : decode cL_isThrown 56 = .ok (.iload 6, 2) := by decide +kernel
theorem dL_isThrown_58 : decode cL_isThrown 58 = .ok (.iload 4, 2) := by decide +kernel
theorem dL_isThrown_60 : decode cL_isThrown 60 = .ok (.if_icmp .ge 83, 3) := by decide +kernel
theorem dL_isThrown_63 : decode cL_isThrown 63 = .ok (.iload_n 0, 1) := by decide +kernel
theorem dL_isThrown_64 : decode cL_isThrown 64 = .ok (.iconst 3, 1) := by decide +kernel
theorem dL_isThrown_65 : decode cL_isThrown 65 = .ok (.ishr, 1) := by decide +kernel
theorem dL_isThrown_66 : decode cL_isThrown 66 = .ok (.iconst 2, 1) := by decide +kernel
theorem dL_isThrown_67 : decode cL_isThrown 67 = .ok (.invokestatic 9, 3) := by decide +kernel
theorem dL_isThrown_70 : decode cL_isThrown 70 = .ok (.ifCond .ne 16, 3) := by decide +kernel
theorem dL_isThrown_73 : decode cL_isThrown 73 = .ok (.iconst 1, 1) := by decide +kernel
theorem dL_isThrown_74 : decode cL_isThrown 74 = .ok (.iload_n 0, 1) := by decide +kernel
theorem dL_isThrown_75 : decode cL_isThrown 75 = .ok (.iconst 4, 1) := by decide +kernel
theorem dL_isThrown_76 : decode cL_isThrown 76 = .ok (.ishr, 1) := by decide +kernel
theorem dL_isThrown_77 : decode cL_isThrown 77 = .ok (.bipush 7, 2) := by decide +kernel
theorem dL_isThrown_79 : decode cL_isThrown 79 = .ok (.invokestatic 9, 3) := by decide +kernel
theorem dL_isThrown_82 : decode cL_isThrown 82 = .ok (.iadd, 1) := by decide +kernel
theorem dL_isThrown_83 : decode cL_isThrown 83 = .ok (.goto 14, 3) := by decide +kernel
theorem dL_isThrown_86 : decode cL_isThrown 86 = .ok (.iload_n 1, 1) := by decide +kernel
theorem dL_isThrown_87 : decode cL_isThrown 87 = .ok (.iconst 3, 1) := by decide +kernel
theorem dL_isThrown_88 : decode cL_isThrown 88 = .ok (.iload 6, 2) := by decide +kernel
theorem dL_isThrown_90 : decode cL_isThrown 90 = .ok (.imul, 1) := by decide +kernel
theorem dL_isThrown_91 : decode cL_isThrown 91 = .ok (.ishr, 1) := by decide +kernel
theorem dL_isThrown_92 : decode cL_isThrown 92 = .ok (.bipush 8, 2) := by decide +kernel
theorem dL_isThrown_94 : decode cL_isThrown 94 = .ok (.invokestatic 9, 3) := by decide +kernel
theorem dL_isThrown_97 : decode cL_isThrown 97 = .ok (.istore 7, 2) := by decide +kernel
theorem dL_isThrown_99 : decode cL_isThrown 99 = .ok (.iload 5, 2) := by decide +kernel
theorem dL_isThrown_101 : decode cL_isThrown 101 = .ok (.ifCond .eq 33, 3) := by decide +kernel
theorem dL_isThrown_104 : decode cL_isThrown 104 = .ok (.aload_n 2, 1) := by decide +kernel
theorem dL_isThrown_105 : decode cL_isThrown 105 = .ok (.bipush 48, 2) := by decide +kernel
theorem dL_isThrown_107 : decode cL_isThrown 107 = .ok (.iload 7, 2) := by decide +kernel
theorem dL_isThrown_109 : decode cL_isThrown 109 = .ok (.iadd, 1) := by decide +kernel
theorem dL_isThrown_110 : decode cL_isThrown 110 = .ok (.i2l, 1) := by decide +kernel
theorem dL_isThrown_111 : decode cL_isThrown 111 = .ok (.invokevirtual 31, 3) := by decide +kernel
theorem dL_isThrown_114 : decode cL_isThrown 114 = .ok (.ifCond .le 20, 3) := by decide +kernel
theorem dL_isThrown_117 : decode cL_isThrown 117 = .ok (.aload_n 3, 1) := by decide +kernel
theorem dL_isThrown_118 : decode cL_isThrown 118 = .ok (.bipush 48, 2) := by decide +kernel
theorem dL_isThrown_120 : decode cL_isThrown 120 = .ok (.iload 7, 2) := by decide +kernel
theorem dL_isThrown_122 : decode cL_isThrown 122 = .ok (.iadd, 1) := by decide +kernel
theorem dL_isThrown_123 : decode cL_isThrown 123 = .ok (.i2l, 1) := by decide +kernel
theorem dL_isThrown_124 : decode cL_isThrown 124 = .ok (.invokevirtual 31, 3) := by decide +kernel
theorem dL_isThrown_127 : decode cL_isThrown 127 = .ok (.ifCond .le 7, 3) := by decide +kernel
theorem dL_isThrown_130 : decode cL_isThrown 130 = .ok (.iconst 1, 1) := by decide +kernel
theorem dL_isThrown_131 : decode cL_isThrown 131 = .ok (.goto 4, 3) := by decide +kernel
theorem dL_isThrown_134 : decode cL_isThrown 134 = .ok (.iconst 0, 1) := by decide +kernel
theorem dL_isThrown_135 : decode cL_isThrown 135 = .ok (.istore 5, 2) := by decide +kernel
theorem dL_isThrown_137 : decode cL_isThrown 137 = .ok (.iinc 6 1, 3) := by decide +kernel
theorem dL_isThrown_140 : decode cL_isThrown 140 = .ok (.goto (-84), 3) := by decide +kernel
theorem dL_isThrown_143 : decode cL_isThrown 143 = .ok (.aload_n 3, 1) := by decide +kernel
theorem dL_isThrown_144 : decode cL_isThrown 144 = .ok (.iconst 0, 1) := by decide +kernel
theorem dL_isThrown_145 : decode cL_isThrown 145 = .ok (.invokevirtual 69, 3) := by decide +kernel
theorem dL_isThrown_148 : decode cL_isThrown 148 = .ok (.ifCond .ne 24, 3) := by decide +kernel
theorem dL_isThrown_151 : decode cL_isThrown 151 = .ok (.iload 5, 2) := by decide +kernel
theorem dL_isThrown_153 : decode cL_isThrown 153 = .ok (.ifCond .eq 17, 3) := by decide +kernel
theorem dL_isThrown_156 : decode cL_isThrown 156 = .ok (.aload_n 3, 1) := by decide +kernel
theorem dL_isThrown_157 : decode cL_isThrown 157 = .ok (.iconst 2, 1) := by decide +kernel
theorem dL_isThrown_158 : decode cL_isThrown 158 = .ok (.invokevirtual 69, 3) := by decide +kernel
theorem dL_isThrown_161 : decode cL_isThrown 161 = .ok (.bipush (-5), 2) := by decide +kernel
theorem dL_isThrown_163 : decode cL_isThrown 163 = .ok (.if_icmp .ne 7, 3) := by decide +kernel
theorem dL_isThrown_166 : decode cL_isThrown 166 = .ok (.iconst 1, 1) := by decide +kernel
theorem dL_isThrown_167 : decode cL_isThrown 167 = .ok (.goto 4, 3) := by decide +kernel
theorem dL_isThrown_170 : decode cL_isThrown 170 = .ok (.iconst 0, 1) := by decide +kernel
theorem dL_isThrown_171 : decode cL_isThrown 171 = .ok (.ireturn, 1) := by decide +kernel
theorem dL_isThrown_172 : decode cL_isThrown 172 = .ok (.aload_n 3, 1) := by decide +kernel
theorem dL_isThrown_173 : decode cL_isThrown 173 = .ok (.iconst 2, 1) := by decide +kernel
theorem dL_isThrown_174 : decode cL_isThrown 174 = .ok (.invokevirtual 69, 3) := by decide +kernel
theorem dL_isThrown_177 : decode cL_isThrown 177 = .ok (.istore 6, 2) := by decide +kernel
theorem dL_isThrown_179 : decode cL_isThrown 179 = .ok (.aload_n 3, 1) := by decide +kernel
theorem dL_isThrown_180 : decode cL_isThrown 180 = .ok (.iconst 1, 1) := by decide +kernel
theorem dL_isThrown_181 : decode cL_isThrown 181 = .ok (.invokevirtual 69, 3) := by decide +kernel
theorem dL_isThrown_184 : decode cL_isThrown 184 = .ok (.istore 7, 2) := by decide +kernel
theorem dL_isThrown_186 : decode cL_isThrown 186 = .ok (.iload 5, 2) := by decide +kernel
theorem dL_isThrown_188 : decode cL_isThrown 188 = .ok (.ifCond .eq 24, 3) := by decide +kernel
theorem dL_isThrown_191 : decode cL_isThrown 191 = .ok (.aload_n 2, 1) := by decide +kernel
theorem dL_isThrown_192 : decode cL_isThrown 192 = .ok (.invokevirtual 42, 3) := by decide +kernel
theorem dL_isThrown_195 : decode cL_isThrown 195 = .ok (.ifCond .ne 17, 3) := by decide +kernel
theorem dL_isThrown_198 : decode cL_isThrown 198 = .ok (.aload_n 2, 1) := by decide +kernel
theorem dL_isThrown_199 : decode cL_isThrown 199 = .ok (.bipush 8, 2) := by decide +kernel
theorem dL_isThrown_201 : decode cL_isThrown 201 = .ok (.iconst 0, 1) := by decide +kernel
theorem dL_isThrown_202 : decode cL_isThrown 202 = .ok (.invokevirtual 21, 3) := by decide +kernel
theorem dL_isThrown_205 : decode cL_isThrown 205 = .ok (.ifCond .ne 7, 3) := by decide +kernel
theorem dL_isThrown_208 : decode cL_isThrown 208 = .ok (.iconst 1, 1) := by decide +kernel
theorem dL_isThrown_209 : decode cL_isThrown 209 = .ok (.goto 4, 3) := by decide +kernel
theorem dL_isThrown_212 : decode cL_isThrown 212 = .ok (.iconst 0, 1) := by decide +kernel
theorem dL_isThrown_213 : decode cL_isThrown 213 = .ok (.istore 5, 2) := by decide +kernel
theorem dL_isThrown_215 : decode cL_isThrown 215 = .ok (.iconst 0, 1) := by decide +kernel
theorem dL_isThrown_216 : decode cL_isThrown 216 = .ok (.istore 8, 2) := by decide +kernel
theorem dL_isThrown_218 : decode cL_isThrown 218 = .ok (.iload 8, 2) := by decide +kernel
theorem dL_isThrown_220 : decode cL_isThrown 220 = .ok (.bipush 8, 2) := by decide +kernel
theorem dL_isThrown_222 : decode cL_isThrown 222 = .ok (.if_icmp .ge 42, 3) := by decide +kernel
theorem dL_isThrown_225 : decode cL_isThrown 225 = .ok (.iload 5, 2) := by decide +kernel
theorem dL_isThrown_227 : decode cL_isThrown 227 = .ok (.ifCond .eq 28, 3) := by decide +kernel
theorem dL_isThrown_230 : decode cL_isThrown 230 = .ok (.iload 6, 2) := by decide +kernel
theorem dL_isThrown_232 : decode cL_isThrown 232 = .ok (.iload 8, 2) := by decide +kernel
theorem dL_isThrown_234 : decode cL_isThrown 234 = .ok (.ishr, 1) := by decide +kernel
theorem dL_isThrown_235 : decode cL_isThrown 235 = .ok (.iconst 1, 1) := by decide +kernel
theorem dL_isThrown_236 : decode cL_isThrown 236 = .ok (.iand, 1) := by decide +kernel
theorem dL_isThrown_237 : decode cL_isThrown 237 = .ok (.iconst 1, 1) := by decide +kernel
theorem dL_isThrown_238 : decode cL_isThrown 238 = .ok (.if_icmp .eq 13, 3) := by decide +kernel
theorem dL_isThrown_241 : decode cL_isThrown 241 = .ok (.aload_n 2, 1) := by decide +kernel
theorem dL_isThrown_242 : decode cL_isThrown 242 = .ok (.iconst 0, 1) := by decide +kernel
theorem dL_isThrown_243 : decode cL_isThrown 243 = .ok (.iload 8, 2) := by decide +kernel
theorem dL_isThrown_245 : decode cL_isThrown 245 = .ok (.invokevirtual 45, 3) := by decide +kernel
theorem dL_isThrown_248 : decode cL_isThrown 248 = .ok (.ifCond .le 7, 3) := by decide +kernel
theorem dL_isThrown_251 : decode cL_isThrown 251 = .ok (.iconst 1, 1) := by decide +kernel
theorem dL_isThrown_252 : decode cL_isThrown 252 = .ok (.goto 4, 3) := by decide +kernel
theorem dL_isThrown_255 : decode cL_isThrown 255 = .ok (.iconst 0, 1) := by decide +kernel
theorem dL_isThrown_256 : decode cL_isThrown 256 = .ok (.istore 5, 2) := by decide +kernel
theorem dL_isThrown_258 : decode cL_isThrown 258 = .ok (.iinc 8 1, 3) := by decide +kernel
theorem dL_isThrown_261 : decode cL_isThrown 261 = .ok (.goto (-43), 3) := by decide +kernel
theorem dL_isThrown_264 : decode cL_isThrown 264 = .ok (.iload 5, 2) := by decide +kernel
theorem dL_isThrown_266 : decode cL_isThrown 266 = .ok (.ifCond .eq 68, 3) := by decide +kernel
theorem dL_isThrown_269 : decode cL_isThrown 269 = .ok (.aload_n 2, 1) := by decide +kernel
theorem dL_isThrown_270 : decode cL_isThrown 270 = .ok (.iconst 0, 1) := by decide +kernel
theorem dL_isThrown_271 : decode cL_isThrown 271 = .ok (.iconst 1, 1) := by decide +kernel
theorem dL_isThrown_272 : decode cL_isThrown 272 = .ok (.invokevirtual 24, 3) := by decide +kernel
theorem dL_isThrown_275 : decode cL_isThrown 275 = .ok (.iload 7, 2) := by decide +kernel
theorem dL_isThrown_277 : decode cL_isThrown 277 = .ok (.if_icmp .ne 57, 3) := by decide +kernel
theorem dL_isThrown_280 : decode cL_isThrown 280 = .ok (.aload_n 2, 1) := by decide +kernel
theorem dL_isThrown_281 : decode cL_isThrown 281 = .ok (.invokevirtual 51, 3) := by decide +kernel
theorem dL_isThrown_284 : decode cL_isThrown 284 = .ok (.bipush (-6), 2) := by decide +kernel
theorem dL_isThrown_286 : decode cL_isThrown 286 = .ok (.if_icmp .ne 48, 3) := by decide +kernel
theorem dL_isThrown_289 : decode cL_isThrown 289 = .ok (.aload_n 2, 1) := by decide +kernel
theorem dL_isThrown_290 : decode cL_isThrown 290 = .ok (.invokevirtual 60, 3) := by decide +kernel
theorem dL_isThrown_293 : decode cL_isThrown 293 = .ok (.iconst 1, 1) := by decide +kernel
theorem dL_isThrown_294 : decode cL_isThrown 294 = .ok (.if_icmp .lt 40, 3) := by decide +kernel
theorem dL_isThrown_297 : decode cL_isThrown 297 = .ok (.iload 4, 2) := by decide +kernel
theorem dL_isThrown_299 : decode cL_isThrown 299 = .ok (.aload_n 2, 1) := by decide +kernel
theorem dL_isThrown_300 : decode cL_isThrown 300 = .ok (.invokevirtual 60, 3) := by decide +kernel
theorem dL_isThrown_303 : decode cL_isThrown 303 = .ok (.irem, 1) := by decide +kernel
theorem dL_isThrown_304 : decode cL_isThrown 304 = .ok (.ifCond .ne 30, 3) := by decide +kernel
theorem dL_isThrown_307 : decode cL_isThrown 307 = .ok (.aload_n 2, 1) := by decide +kernel
theorem dL_isThrown_308 : decode cL_isThrown 308 = .ok (.iconst 0, 1) := by decide +kernel
theorem dL_isThrown_309 : decode cL_isThrown 309 = .ok (.iload 4, 2) := by decide +kernel
theorem dL_isThrown_311 : decode cL_isThrown 311 = .ok (.invokevirtual 54, 3) := by decide +kernel
theorem dL_isThrown_314 : decode cL_isThrown 314 = .ok (.iload 6, 2) := by decide +kernel
theorem dL_isThrown_316 : decode cL_isThrown 316 = .ok (.if_icmp .ne 18, 3) := by decide +kernel
theorem dL_isThrown_319 : decode cL_isThrown 319 = .ok (.aload_n 2, 1) := by decide +kernel
theorem dL_isThrown_320 : decode cL_isThrown 320 = .ok (.iconst 0, 1) := by decide +kernel
theorem dL_isThrown_321 : decode cL_isThrown 321 = .ok (.iload 6, 2) := by decide +kernel
theorem dL_isThrown_323 : decode cL_isThrown 323 = .ok (.iconst 0, 1) := by decide +kernel
theorem dL_isThrown_324 : decode cL_isThrown 324 = .ok (.invokevirtual 72, 3) := by decide +kernel
theorem dL_isThrown_327 : decode cL_isThrown 327 = .ok (.ifCond .ne 7, 3) := by decide +kernel
theorem dL_isThrown_330 : decode cL_isThrown 330 = .ok (.iconst 1, 1) := by decide +kernel
theorem dL_isThrown_331 : decode cL_isThrown 331 = .ok (.goto 4, 3) := by decide +kernel
theorem dL_isThrown_334 : decode cL_isThrown 334 = .ok (.iconst 0, 1) := by decide +kernel
theorem dL_isThrown_335 : decode cL_isThrown 335 = .ok (.istore 5, 2) := by decide +kernel
theorem dL_isThrown_337 : decode cL_isThrown 337 = .ok (.iconst 0, 1) := by decide +kernel
theorem dL_isThrown_338 : decode cL_isThrown 338 = .ok (.istore 8, 2) := by decide +kernel
theorem dL_isThrown_340 : decode cL_isThrown 340 = .ok (.iconst 0, 1) := by decide +kernel
theorem dL_isThrown_341 : decode cL_isThrown 341 = .ok (.istore 9, 2) := by decide +kernel
theorem dL_isThrown_343 : decode cL_isThrown 343 = .ok (.iconst 0, 1) := by decide +kernel
theorem dL_isThrown_344 : decode cL_isThrown 344 = .ok (.istore 10, 2) := by decide +kernel
theorem dL_isThrown_346 : decode cL_isThrown 346 = .ok (.iload 10, 2) := by decide +kernel
theorem dL_isThrown_348 : decode cL_isThrown 348 = .ok (.iload 4, 2) := by decide +kernel
theorem dL_isThrown_350 : decode cL_isThrown 350 = .ok (.if_icmp .ge 34, 3) := by decide +kernel
theorem dL_isThrown_353 : decode cL_isThrown 353 = .ok (.iload 8, 2) := by decide +kernel
theorem dL_isThrown_355 : decode cL_isThrown 355 = .ok (.aload_n 3, 1) := by decide +kernel
theorem dL_isThrown_356 : decode cL_isThrown 356 = .ok (.iload 10, 2) := by decide +kernel
theorem dL_isThrown_358 : decode cL_isThrown 358 = .ok (.invokevirtual 76, 3) := by decide +kernel
theorem dL_isThrown_361 : decode cL_isThrown 361 = .ok (.iadd, 1) := by decide +kernel
theorem dL_isThrown_362 : decode cL_isThrown 362 = .ok (.istore 8, 2) := by decide +kernel
theorem dL_isThrown_364 : decode cL_isThrown 364 = .ok (.bipush 10, 2) := by decide +kernel
theorem dL_isThrown_366 : decode cL_isThrown 366 = .ok (.iload 9, 2) := by decide +kernel
theorem dL_isThrown_368 : decode cL_isThrown 368 = .ok (.imul, 1) := by decide +kernel
theorem dL_isThrown_369 : decode cL_isThrown 369 = .ok (.aload_n 3, 1) := by decide +kernel
theorem dL_isThrown_370 : decode cL_isThrown 370 = .ok (.iload 10, 2) := by decide +kernel
theorem dL_isThrown_372 : decode cL_isThrown 372 = .ok (.invokevirtual 76, 3) := by decide +kernel
theorem dL_isThrown_375 : decode cL_isThrown 375 = .ok (.iadd, 1) := by decide +kernel
theorem dL_isThrown_376 : decode cL_isThrown 376 = .ok (.istore 9, 2) := by decide +kernel
theorem dL_isThrown_378 : decode cL_isThrown 378 = .ok (.iinc 10 1, 3) := by decide +kernel
theorem dL_isThrown_381 : decode cL_isThrown 381 = .ok (.goto (-35), 3) := by decide +kernel
theorem dL_isThrown_384 : decode cL_isThrown 384 = .ok (.new 16, 3) := by decide +kernel
theorem dL_isThrown_387 : decode cL_isThrown 387 = .ok (.dup, 1) := by decide +kernel
theorem dL_isThrown_388 : decode cL_isThrown 388 = .ok (.invokespecial 66, 3) := by decide +kernel
theorem dL_isThrown_391 : decode cL_isThrown 391 = .ok (.astore 10, 2) := by decide +kernel
theorem dL_isThrown_393 : decode cL_isThrown 393 = .ok (.iconst 0, 1) := by decide +kernel
theorem dL_isThrown_394 : decode cL_isThrown 394 = .ok (.istore 11, 2) := by decide +kernel
theorem dL_isThrown_396 : decode cL_isThrown 396 = .ok (.iload 11, 2) := by decide +kernel
theorem dL_isThrown_398 : decode cL_isThrown 398 = .ok (.iload 4, 2) := by decide +kernel
theorem dL_isThrown_400 : decode cL_isThrown 400 = .ok (.if_icmp .ge 39, 3) := by decide +kernel
theorem dL_isThrown_403 : decode cL_isThrown 403 = .ok (.iload 5, 2) := by decide +kernel
theorem dL_isThrown_405 : decode cL_isThrown 405 = .ok (.ifCond .eq 25, 3) := by decide +kernel
theorem dL_isThrown_408 : decode cL_isThrown 408 = .ok (.aload 10, 2) := by decide +kernel
theorem dL_isThrown_410 : decode cL_isThrown 410 = .ok (.bipush 48, 2) := by decide +kernel
theorem dL_isThrown_412 : decode cL_isThrown 412 = .ok (.aload_n 3, 1) := by decide +kernel
theorem dL_isThrown_413 : decode cL_isThrown 413 = .ok (.iload 11, 2) := by decide +kernel
theorem dL_isThrown_415 : decode cL_isThrown 415 = .ok (.invokevirtual 76, 3) := by decide +kernel
theorem dL_isThrown_418 : decode cL_isThrown 418 = .ok (.iadd, 1) := by decide +kernel
theorem dL_isThrown_419 : decode cL_isThrown 419 = .ok (.i2l, 1) := by decide +kernel
theorem dL_isThrown_420 : decode cL_isThrown 420 = .ok (.invokevirtual 31, 3) := by decide +kernel
theorem dL_isThrown_423 : decode cL_isThrown 423 = .ok (.ifCond .le 7, 3) := by decide +kernel
theorem dL_isThrown_426 : decode cL_isThrown 426 = .ok (.iconst 1, 1) := by decide +kernel
theorem dL_isThrown_427 : decode cL_isThrown 427 = .ok (.goto 4, 3) := by decide +kernel
theorem dL_isThrown_430 : decode cL_isThrown 430 = .ok (.iconst 0, 1) := by decide +kernel
theorem dL_isThrown_431 : decode cL_isThrown 431 = .ok (.istore 5, 2) := by decide +kernel
theorem dL_isThrown_433 : decode cL_isThrown 433 = .ok (.iinc 11 1, 3) := by decide +kernel
theorem dL_isThrown_436 : decode cL_isThrown 436 = .ok (.goto (-40), 3) := by decide +kernel
theorem dL_isThrown_439 : decode cL_isThrown 439 = .ok (.iload 5, 2) := by decide +kernel
theorem dL_isThrown_441 : decode cL_isThrown 441 = .ok (.ifCond .eq 71, 3) := by decide +kernel
theorem dL_isThrown_444 : decode cL_isThrown 444 = .ok (.iload 8, 2) := by decide +kernel
theorem dL_isThrown_446 : decode cL_isThrown 446 = .ok (.iload 7, 2) := by decide +kernel
theorem dL_isThrown_448 : decode cL_isThrown 448 = .ok (.iload 4, 2) := by decide +kernel
theorem dL_isThrown_450 : decode cL_isThrown 450 = .ok (.imul, 1) := by decide +kernel
theorem dL_isThrown_451 : decode cL_isThrown 451 = .ok (.if_icmp .ne 61, 3) := by decide +kernel
theorem dL_isThrown_454 : decode cL_isThrown 454 = .ok (.aload 10, 2) := by decide +kernel
theorem dL_isThrown_456 : decode cL_isThrown 456 = .ok (.iconst 0, 1) := by decide +kernel
theorem dL_isThrown_457 : decode cL_isThrown 457 = .ok (.invokevirtual 69, 3) := by decide +kernel
theorem dL_isThrown_460 : decode cL_isThrown 460 = .ok (.iconst 1, 1) := by decide +kernel
theorem dL_isThrown_461 : decode cL_isThrown 461 = .ok (.if_icmp .ne 51, 3) := by decide +kernel
theorem dL_isThrown_464 : decode cL_isThrown 464 = .ok (.aload 10, 2) := by decide +kernel
theorem dL_isThrown_466 : decode cL_isThrown 466 = .ok (.iconst 1, 1) := by decide +kernel
theorem dL_isThrown_467 : decode cL_isThrown 467 = .ok (.invokevirtual 69, 3) := by decide +kernel
theorem dL_isThrown_470 : decode cL_isThrown 470 = .ok (.iload 7, 2) := by decide +kernel
theorem dL_isThrown_472 : decode cL_isThrown 472 = .ok (.if_icmp .ne 40, 3) := by decide +kernel
theorem dL_isThrown_475 : decode cL_isThrown 475 = .ok (.aload 10, 2) := by decide +kernel
theorem dL_isThrown_477 : decode cL_isThrown 477 = .ok (.iconst 3, 1) := by decide +kernel
theorem dL_isThrown_478 : decode cL_isThrown 478 = .ok (.invokevirtual 69, 3) := by decide +kernel
theorem dL_isThrown_481 : decode cL_isThrown 481 = .ok (.aload_n 3, 1) := by decide +kernel
theorem dL_isThrown_482 : decode cL_isThrown 482 = .ok (.iconst 3, 1) := by decide +kernel
theorem dL_isThrown_483 : decode cL_isThrown 483 = .ok (.invokevirtual 69, 3) := by decide +kernel
theorem dL_isThrown_486 : decode cL_isThrown 486 = .ok (.if_icmp .ne 26, 3) := by decide +kernel
theorem dL_isThrown_489 : decode cL_isThrown 489 = .ok (.aload 10, 2) := by decide +kernel
theorem dL_isThrown_491 : decode cL_isThrown 491 = .ok (.iconst 5, 1) := by decide +kernel
theorem dL_isThrown_492 : decode cL_isThrown 492 = .ok (.invokevirtual 69, 3) := by decide +kernel
theorem dL_isThrown_495 : decode cL_isThrown 495 = .ok (.aload_n 3, 1) := by decide +kernel
theorem dL_isThrown_496 : decode cL_isThrown 496 = .ok (.iconst 5, 1) := by decide +kernel
theorem dL_isThrown_497 : decode cL_isThrown 497 = .ok (.invokevirtual 69, 3) := by decide +kernel
theorem dL_isThrown_500 : decode cL_isThrown 500 = .ok (.if_icmp .ne 12, 3) := by decide +kernel
theorem dL_isThrown_503 : decode cL_isThrown 503 = .ok (.iload 9, 2) := by decide +kernel
theorem dL_isThrown_505 : decode cL_isThrown 505 = .ok (.ifCond .lt 7, 3) := by decide +kernel
theorem dL_isThrown_508 : decode cL_isThrown 508 = .ok (.iconst 1, 1) := by decide +kernel
theorem dL_isThrown_509 : decode cL_isThrown 509 = .ok (.goto 4, 3) := by decide +kernel
theorem dL_isThrown_512 : decode cL_isThrown 512 = .ok (.iconst 0, 1) := by decide +kernel
theorem dL_isThrown_513 : decode cL_isThrown 513 = .ok (.istore 5, 2) := by decide +kernel
theorem dL_isThrown_515 : decode cL_isThrown 515 = .ok (.iconst 0, 1) := by decide +kernel
theorem dL_isThrown_516 : decode cL_isThrown 516 = .ok (.istore 11, 2) := by decide +kernel
theorem dL_isThrown_518 : decode cL_isThrown 518 = .ok (.iload 11, 2) := by decide +kernel
theorem dL_isThrown_520 : decode cL_isThrown 520 = .ok (.iload 4, 2) := by decide +kernel
theorem dL_isThrown_522 : decode cL_isThrown 522 = .ok (.if_icmp .ge 39, 3) := by decide +kernel
theorem dL_isThrown_525 : decode cL_isThrown 525 = .ok (.iload 5, 2) := by decide +kernel
theorem dL_isThrown_527 : decode cL_isThrown 527 = .ok (.ifCond .eq 34, 3) := by decide +kernel
theorem dL_isThrown_530 : decode cL_isThrown 530 = .ok (.aload 10, 2) := by decide +kernel
theorem dL_isThrown_532 : decode cL_isThrown 532 = .ok (.iload 11, 2) := by decide +kernel
theorem dL_isThrown_534 : decode cL_isThrown 534 = .ok (.invokevirtual 76, 3) := by decide +kernel
theorem dL_isThrown_537 : decode cL_isThrown 537 = .ok (.aload_n 2, 1) := by decide +kernel
theorem dL_isThrown_538 : decode cL_isThrown 538 = .ok (.iconst 0, 1) := by decide +kernel
theorem dL_isThrown_539 : decode cL_isThrown 539 = .ok (.iload 11, 2) := by decide +kernel
theorem dL_isThrown_541 : decode cL_isThrown 541 = .ok (.iconst 0, 1) := by decide +kernel
theorem dL_isThrown_542 : decode cL_isThrown 542 = .ok (.invokevirtual 79, 3) := by decide +kernel
theorem dL_isThrown_545 : decode cL_isThrown 545 = .ok (.if_icmp .ne 7, 3) := by decide +kernel
theorem dL_isThrown_548 : decode cL_isThrown 548 = .ok (.iconst 1, 1) := by decide +kernel
theorem dL_isThrown_549 : decode cL_isThrown 549 = .ok (.goto 4, 3) := by decide +kernel
theorem dL_isThrown_552 : decode cL_isThrown 552 = .ok (.iconst 0, 1) := by decide +kernel
theorem dL_isThrown_553 : decode cL_isThrown 553 = .ok (.istore 5, 2) := by decide +kernel
theorem dL_isThrown_555 : decode cL_isThrown 555 = .ok (.iinc 11 1, 3) := by decide +kernel
theorem dL_isThrown_558 : decode cL_isThrown 558 = .ok (.goto (-40), 3) := by decide +kernel
theorem dL_isThrown_561 : decode cL_isThrown 561 = .ok (.iload 5, 2) := by decide +kernel
theorem dL_isThrown_563 : decode cL_isThrown 563 = .ok (.ireturn, 1) := by decide +kernel
