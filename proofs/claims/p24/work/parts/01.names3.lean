theorem dL_isCounted_0 : decode cL_isCounted 0 = .ok (.iconst 1, 1) := by decide +kernel
theorem dL_isCounted_1 : decode cL_isCounted 1 = .ok (.istore_n 2, 1) := by decide +kernel
theorem dL_isCounted_2 : decode cL_isCounted 2 = .ok (.iconst 1, 1) := by decide +kernel
theorem dL_isCounted_3 : decode cL_isCounted 3 = .ok (.istore_n 3, 1) := by decide +kernel
theorem dL_isCounted_4 : decode cL_isCounted 4 = .ok (.iconst 0, 1) := by decide +kernel
theorem dL_isCounted_5 : decode cL_isCounted 5 = .ok (.istore 4, 2) := by decide +kernel
theorem dL_isCounted_7 : decode cL_isCounted 7 = .ok (.iload 4, 2) := by decide +kernel
theorem dL_isCounted_9 : decode cL_isCounted 9 = .ok (.iload_n 1, 1) := by decide +kernel
theorem dL_isCounted_10 : decode cL_isCounted 10 = .ok (.if_icmp .ge 13, 3) := by decide +kernel
theorem dL_isCounted_13 : decode cL_isCounted 13 = .ok (.iload_n 3, 1) := by decide +kernel
theorem dL_isCounted_14 : decode cL_isCounted 14 = .ok (.iconst 2, 1) := by decide +kernel
theorem dL_isCounted_15 : decode cL_isCounted 15 = .ok (.imul, 1) := by decide +kernel
theorem dL_isCounted_16 : decode cL_isCounted 16 = .ok (.istore_n 3, 1) := by decide +kernel
theorem dL_isCounted_17 : decode cL_isCounted 17 = .ok (.iinc 4 1, 3) := by decide +kernel
theorem dL_isCounted_20 : decode cL_isCounted 20 = .ok (.goto (-13), 3) := by decide +kernel
theorem dL_isCounted_23 : decode cL_isCounted 23 = .ok (.aload_n 0, 1) := by decide +kernel
theorem dL_isCounted_24 : decode cL_isCounted 24 = .ok (.iload_n 1, 1) := by decide +kernel
theorem dL_isCounted_25 : decode cL_isCounted 25 = .ok (.iconst 0, 1) := by decide +kernel
theorem dL_isCounted_26 : decode cL_isCounted 26 = .ok (.invokevirtual 82, 3) := by decide +kernel
theorem dL_isCounted_29 : decode cL_isCounted 29 = .ok (.iconst 1, 1) := by decide +kernel
theorem dL_isCounted_30 : decode cL_isCounted 30 = .ok (.if_icmp .ne 19, 3) := by decide +kernel
theorem dL_isCounted_33 : decode cL_isCounted 33 = .ok (.aload_n 0, 1) := by decide +kernel
theorem dL_isCounted_34 : decode cL_isCounted 34 = .ok (.iload_n 1, 1) := by decide +kernel
theorem dL_isCounted_35 : decode cL_isCounted 35 = .ok (.iconst 1, 1) := by decide +kernel
theorem dL_isCounted_36 : decode cL_isCounted 36 = .ok (.invokevirtual 82, 3) := by decide +kernel
theorem dL_isCounted_39 : decode cL_isCounted 39 = .ok (.iload_n 3, 1) := by decide +kernel
theorem dL_isCounted_40 : decode cL_isCounted 40 = .ok (.iconst 1, 1) := by decide +kernel
theorem dL_isCounted_41 : decode cL_isCounted 41 = .ok (.isub, 1) := by decide +kernel
theorem dL_isCounted_42 : decode cL_isCounted 42 = .ok (.if_icmp .ne 7, 3) := by decide +kernel
theorem dL_isCounted_45 : decode cL_isCounted 45 = .ok (.iconst 1, 1) := by decide +kernel
theorem dL_isCounted_46 : decode cL_isCounted 46 = .ok (.goto 4, 3) := by decide +kernel
theorem dL_isCounted_49 : decode cL_isCounted 49 = .ok (.iconst 0, 1) := by decide +kernel
theorem dL_isCounted_50 : decode cL_isCounted 50 = .ok (.istore_n 2, 1) := by decide +kernel
theorem dL_isCounted_51 : decode cL_isCounted 51 = .ok (.iload_n 2, 1) := by decide +kernel
theorem dL_isCounted_52 : decode cL_isCounted 52 = .ok (.ifCond .eq 30, 3) := by decide +kernel
theorem dL_isCounted_55 : decode cL_isCounted 55 = .ok (.aload_n 0, 1) := by decide +kernel
theorem dL_isCounted_56 : decode cL_isCounted 56 = .ok (.iload_n 1, 1) := by decide +kernel
theorem dL_isCounted_57 : decode cL_isCounted 57 = .ok (.bipush 7, 2) := by decide +kernel
theorem dL_isCounted_59 : decode cL_isCounted 59 = .ok (.invokevirtual 82, 3) := by decide +kernel
theorem dL_isCounted_62 : decode cL_isCounted 62 = .ok (.iconst 1, 1) := by decide +kernel
theorem dL_isCounted_63 : decode cL_isCounted 63 = .ok (.if_icmp .ne 19, 3) := by decide +kernel
theorem dL_isCounted_66 : decode cL_isCounted 66 = .ok (.aload_n 0, 1) := by decide +kernel
theorem dL_isCounted_67 : decode cL_isCounted 67 = .ok (.iload_n 1, 1) := by decide +kernel
theorem dL_isCounted_68 : decode cL_isCounted 68 = .ok (.bipush 8, 2) := by decide +kernel
theorem dL_isCounted_70 : decode cL_isCounted 70 = .ok (.invokevirtual 82, 3) := by decide +kernel
theorem dL_isCounted_73 : decode cL_isCounted 73 = .ok (.bipush (-2), 2) := by decide +kernel
theorem dL_isCounted_75 : decode cL_isCounted 75 = .ok (.if_icmp .ne 7, 3) := by decide +kernel
theorem dL_isCounted_78 : decode cL_isCounted 78 = .ok (.iconst 1, 1) := by decide +kernel
theorem dL_isCounted_79 : decode cL_isCounted 79 = .ok (.goto 4, 3) := by decide +kernel
theorem dL_isCounted_82 : decode cL_isCounted 82 = .ok (.iconst 0, 1) := by decide +kernel
theorem dL_isCounted_83 : decode cL_isCounted 83 = .ok (.ireturn, 1) := by decide +kernel
theorem dL_law_0 : decode cL_law 0 = .ok (.new 16, 3) := by decide +kernel
theorem dL_law_3 : decode cL_law 3 = .ok (.dup, 1) := by decide +kernel
theorem dL_law_4 : decode cL_law 4 = .ok (.invokespecial 66, 3) := by decide +kernel
theorem dL_law_7 : decode cL_law 7 = .ok (.astore_n 1, 1) := by decide +kernel
theorem dL_law_8 : decode cL_law 8 = .ok (.iconst 1, 1) := by decide +kernel
theorem dL_law_9 : decode cL_law 9 = .ok (.istore_n 2, 1) := by decide +kernel
theorem dL_law_10 : decode cL_law 10 = .ok (.iconst 0, 1) := by decide +kernel
theorem dL_law_11 : decode cL_law 11 = .ok (.istore_n 3, 1) := by decide +kernel
theorem dL_law_12 : decode cL_law 12 = .ok (.iload_n 3, 1) := by decide +kernel
theorem dL_law_13 : decode cL_law 13 = .ok (.bipush 44, 2) := by decide +kernel
theorem dL_law_15 : decode cL_law 15 = .ok (.if_icmp .ge 53, 3) := by decide +kernel
theorem dL_law_18 : decode cL_law 18 = .ok (.iload_n 2, 1) := by decide +kernel
theorem dL_law_19 : decode cL_law 19 = .ok (.ifCond .eq 49, 3) := by decide +kernel
theorem dL_law_22 : decode cL_law 22 = .ok (.aload_n 1, 1) := by decide +kernel
theorem dL_law_23 : decode cL_law 23 = .ok (.aload_n 0, 1) := by decide +kernel
theorem dL_law_24 : decode cL_law 24 = .ok (.iload_n 3, 1) := by decide +kernel
theorem dL_law_25 : decode cL_law 25 = .ok (.invokestatic 85, 3) := by decide +kernel
theorem dL_law_28 : decode cL_law 28 = .ok (.aload_n 0, 1) := by decide +kernel
theorem dL_law_29 : decode cL_law 29 = .ok (.iload_n 3, 1) := by decide +kernel
theorem dL_law_30 : decode cL_law 30 = .ok (.iconst 1, 1) := by decide +kernel
theorem dL_law_31 : decode cL_law 31 = .ok (.iadd, 1) := by decide +kernel
theorem dL_law_32 : decode cL_law 32 = .ok (.invokestatic 85, 3) := by decide +kernel
theorem dL_law_35 : decode cL_law 35 = .ok (.iconst 3, 1) := by decide +kernel
theorem dL_law_36 : decode cL_law 36 = .ok (.ishr, 1) := by decide +kernel
theorem dL_law_37 : decode cL_law 37 = .ok (.invokestatic 89, 3) := by decide +kernel
theorem dL_law_40 : decode cL_law 40 = .ok (.ifCond .eq 20, 3) := by decide +kernel
theorem dL_law_43 : decode cL_law 43 = .ok (.iload_n 3, 1) := by decide +kernel
theorem dL_law_44 : decode cL_law 44 = .ok (.iconst 4, 1) := by decide +kernel
theorem dL_law_45 : decode cL_law 45 = .ok (.irem, 1) := by decide +kernel
theorem dL_law_46 : decode cL_law 46 = .ok (.ifCond .gt 10, 3) := by decide +kernel
theorem dL_law_49 : decode cL_law 49 = .ok (.aload_n 1, 1) := by decide +kernel
theorem dL_law_50 : decode cL_law 50 = .ok (.invokestatic 93, 3) := by decide +kernel
theorem dL_law_53 : decode cL_law 53 = .ok (.ifCond .eq 7, 3) := by decide +kernel
theorem dL_law_56 : decode cL_law 56 = .ok (.iconst 1, 1) := by decide +kernel
theorem dL_law_57 : decode cL_law 57 = .ok (.goto 4, 3) := by decide +kernel
theorem dL_law_60 : decode cL_law 60 = .ok (.iconst 0, 1) := by decide +kernel
theorem dL_law_61 : decode cL_law 61 = .ok (.istore_n 2, 1) := by decide +kernel
theorem dL_law_62 : decode cL_law 62 = .ok (.iinc 3 1, 3) := by decide +kernel
theorem dL_law_65 : decode cL_law 65 = .ok (.goto (-53), 3) := by decide +kernel
theorem dL_law_68 : decode cL_law 68 = .ok (.bipush 44, 2) := by decide +kernel
theorem dL_law_70 : decode cL_law 70 = .ok (.istore_n 3, 1) := by decide +kernel
theorem dL_law_71 : decode cL_law 71 = .ok (.iload_n 3, 1) := by decide +kernel
theorem dL_law_72 : decode cL_law 72 = .ok (.bipush 48, 2) := by decide +kernel
theorem dL_law_74 : decode cL_law 74 = .ok (.if_icmp .ge 31, 3) := by decide +kernel
theorem dL_law_77 : decode cL_law 77 = .ok (.iload_n 2, 1) := by decide +kernel
theorem dL_law_78 : decode cL_law 78 = .ok (.ifCond .eq 27, 3) := by decide +kernel
theorem dL_law_81 : decode cL_law 81 = .ok (.aload_n 0, 1) := by decide +kernel
theorem dL_law_82 : decode cL_law 82 = .ok (.iload_n 3, 1) := by decide +kernel
theorem dL_law_83 : decode cL_law 83 = .ok (.invokestatic 85, 3) := by decide +kernel
theorem dL_law_86 : decode cL_law 86 = .ok (.aload_n 0, 1) := by decide +kernel
theorem dL_law_87 : decode cL_law 87 = .ok (.iload_n 3, 1) := by decide +kernel
theorem dL_law_88 : decode cL_law 88 = .ok (.iconst 1, 1) := by decide +kernel
theorem dL_law_89 : decode cL_law 89 = .ok (.iadd, 1) := by decide +kernel
theorem dL_law_90 : decode cL_law 90 = .ok (.invokestatic 85, 3) := by decide +kernel
theorem dL_law_93 : decode cL_law 93 = .ok (.iconst 2, 1) := by decide +kernel
theorem dL_law_94 : decode cL_law 94 = .ok (.ishr, 1) := by decide +kernel
theorem dL_law_95 : decode cL_law 95 = .ok (.invokestatic 97, 3) := by decide +kernel
theorem dL_law_98 : decode cL_law 98 = .ok (.istore_n 2, 1) := by decide +kernel
theorem dL_law_99 : decode cL_law 99 = .ok (.iinc 3 1, 3) := by decide +kernel
theorem dL_law_102 : decode cL_law 102 = .ok (.goto (-31), 3) := by decide +kernel
theorem dL_law_105 : decode cL_law 105 = .ok (.iload_n 2, 1) := by decide +kernel
theorem dL_law_106 : decode cL_law 106 = .ok (.ifCond .eq 33, 3) := by decide +kernel
theorem dL_law_109 : decode cL_law 109 = .ok (.aload_n 1, 1) := by decide +kernel
theorem dL_law_110 : decode cL_law 110 = .ok (.invokestatic 93, 3) := by decide +kernel
theorem dL_law_113 : decode cL_law 113 = .ok (.ifCond .eq 26, 3) := by decide +kernel
theorem dL_law_116 : decode cL_law 116 = .ok (.aload_n 1, 1) := by decide +kernel
theorem dL_law_117 : decode cL_law 117 = .ok (.iconst 1, 1) := by decide +kernel
theorem dL_law_118 : decode cL_law 118 = .ok (.aload_n 0, 1) := by decide +kernel
theorem dL_law_119 : decode cL_law 119 = .ok (.bipush 50, 2) := by decide +kernel
theorem dL_law_121 : decode cL_law 121 = .ok (.invokestatic 85, 3) := by decide +kernel
theorem dL_law_124 : decode cL_law 124 = .ok (.iconst 4, 1) := by decide +kernel
theorem dL_law_125 : decode cL_law 125 = .ok (.invokestatic 9, 3) := by decide +kernel
theorem dL_law_128 : decode cL_law 128 = .ok (.iadd, 1) := by decide +kernel
theorem dL_law_129 : decode cL_law 129 = .ok (.invokestatic 101, 3) := by decide +kernel
theorem dL_law_132 : decode cL_law 132 = .ok (.ifCond .eq 7, 3) := by decide +kernel
theorem dL_law_135 : decode cL_law 135 = .ok (.iconst 1, 1) := by decide +kernel
theorem dL_law_136 : decode cL_law 136 = .ok (.goto 4, 3) := by decide +kernel
theorem dL_law_139 : decode cL_law 139 = .ok (.iconst 0, 1) := by decide +kernel
theorem dL_law_140 : decode cL_law 140 = .ok (.ireturn, 1) := by decide +kernel
