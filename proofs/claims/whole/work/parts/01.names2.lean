theorem dX7_leftOver_0 : decode cX7_leftOver 0 = .ok (.iload_n 1, 1) := by decide +kernel
theorem dX7_leftOver_1 : decode cX7_leftOver 1 = .ok (.ifCond .le 11, 3) := by decide +kernel
theorem dX7_leftOver_4 : decode cX7_leftOver 4 = .ok (.iload_n 0, 1) := by decide +kernel
theorem dX7_leftOver_5 : decode cX7_leftOver 5 = .ok (.iload_n 1, 1) := by decide +kernel
theorem dX7_leftOver_6 : decode cX7_leftOver 6 = .ok (.invokestatic 236, 3) := by decide +kernel
theorem dX7_leftOver_9 : decode cX7_leftOver 9 = .ok (.goto 4, 3) := by decide +kernel
theorem dX7_leftOver_12 : decode cX7_leftOver 12 = .ok (.iconst 0, 1) := by decide +kernel
theorem dX7_leftOver_13 : decode cX7_leftOver 13 = .ok (.ireturn, 1) := by decide +kernel
theorem dX7_isHeight_0 : decode cX7_isHeight 0 = .ok (.iload_n 0, 1) := by decide +kernel
theorem dX7_isHeight_1 : decode cX7_isHeight 1 = .ok (.bipush 48, 2) := by decide +kernel
theorem dX7_isHeight_3 : decode cX7_isHeight 3 = .ok (.bipush 55, 2) := by decide +kernel
theorem dX7_isHeight_5 : decode cX7_isHeight 5 = .ok (.invokestatic 57, 3) := by decide +kernel
theorem dX7_isHeight_8 : decode cX7_isHeight 8 = .ok (.ireturn, 1) := by decide +kernel
theorem dX7_packedCharacters_0 : decode cX7_packedCharacters 0 = .ok (.iconst 0, 1) := by decide +kernel
theorem dX7_packedCharacters_1 : decode cX7_packedCharacters 1 = .ok (.istore_n 2, 1) := by decide +kernel
theorem dX7_packedCharacters_2 : decode cX7_packedCharacters 2 = .ok (.lload_n 0, 1) := by decide +kernel
theorem dX7_packedCharacters_3 : decode cX7_packedCharacters 3 = .ok (.lstore_n 3, 1) := by decide +kernel
theorem dX7_packedCharacters_4 : decode cX7_packedCharacters 4 = .ok (.iload_n 2, 1) := by decide +kernel
theorem dX7_packedCharacters_5 : decode cX7_packedCharacters 5 = .ok (.bipush 8, 2) := by decide +kernel
theorem dX7_packedCharacters_7 : decode cX7_packedCharacters 7 = .ok (.if_icmp .ge 38, 3) := by decide +kernel
theorem dX7_packedCharacters_10 : decode cX7_packedCharacters 10 = .ok (.lload_n 3, 1) := by decide +kernel
theorem dX7_packedCharacters_11 : decode cX7_packedCharacters 11 = .ok (.lconst 0, 1) := by decide +kernel
theorem dX7_packedCharacters_12 : decode cX7_packedCharacters 12 = .ok (.lcmp, 1) := by decide +kernel
theorem dX7_packedCharacters_13 : decode cX7_packedCharacters 13 = .ok (.ifCond .eq 32, 3) := by decide +kernel
theorem dX7_packedCharacters_16 : decode cX7_packedCharacters 16 = .ok (.lload_n 3, 1) := by decide +kernel
theorem dX7_packedCharacters_17 : decode cX7_packedCharacters 17 = .ok (.ldc2_w 242, 3) := by decide +kernel
theorem dX7_packedCharacters_20 : decode cX7_packedCharacters 20 = .ok (.land, 1) := by decide +kernel
theorem dX7_packedCharacters_21 : decode cX7_packedCharacters 21 = .ok (.l2i, 1) := by decide +kernel
theorem dX7_packedCharacters_22 : decode cX7_packedCharacters 22 = .ok (.bipush 33, 2) := by decide +kernel
theorem dX7_packedCharacters_24 : decode cX7_packedCharacters 24 = .ok (.bipush 126, 2) := by decide +kernel
theorem dX7_packedCharacters_26 : decode cX7_packedCharacters 26 = .ok (.invokestatic 57, 3) := by decide +kernel
theorem dX7_packedCharacters_29 : decode cX7_packedCharacters 29 = .ok (.ifCond .ne 5, 3) := by decide +kernel
theorem dX7_packedCharacters_32 : decode cX7_packedCharacters 32 = .ok (.iconst 0, 1) := by decide +kernel
theorem dX7_packedCharacters_33 : decode cX7_packedCharacters 33 = .ok (.ireturn, 1) := by decide +kernel
theorem dX7_packedCharacters_34 : decode cX7_packedCharacters 34 = .ok (.lload_n 3, 1) := by decide +kernel
theorem dX7_packedCharacters_35 : decode cX7_packedCharacters 35 = .ok (.bipush 8, 2) := by decide +kernel
theorem dX7_packedCharacters_37 : decode cX7_packedCharacters 37 = .ok (.lushr, 1) := by decide +kernel
theorem dX7_packedCharacters_38 : decode cX7_packedCharacters 38 = .ok (.lstore_n 3, 1) := by decide +kernel
theorem dX7_packedCharacters_39 : decode cX7_packedCharacters 39 = .ok (.iinc 2 1, 3) := by decide +kernel
theorem dX7_packedCharacters_42 : decode cX7_packedCharacters 42 = .ok (.goto (-38), 3) := by decide +kernel
theorem dX7_packedCharacters_45 : decode cX7_packedCharacters 45 = .ok (.iload_n 2, 1) := by decide +kernel
theorem dX7_packedCharacters_46 : decode cX7_packedCharacters 46 = .ok (.ireturn, 1) := by decide +kernel
theorem dX7_soundEndings_0 : decode cX7_soundEndings 0 = .ok (.iload_n 1, 1) := by decide +kernel
theorem dX7_soundEndings_1 : decode cX7_soundEndings 1 = .ok (.iload_n 0, 1) := by decide +kernel
theorem dX7_soundEndings_2 : decode cX7_soundEndings 2 = .ok (.if_icmp .lt 13, 3) := by decide +kernel
theorem dX7_soundEndings_5 : decode cX7_soundEndings 5 = .ok (.iload_n 3, 1) := by decide +kernel
theorem dX7_soundEndings_6 : decode cX7_soundEndings 6 = .ok (.ifCond .ne 7, 3) := by decide +kernel
theorem dX7_soundEndings_9 : decode cX7_soundEndings 9 = .ok (.iconst 1, 1) := by decide +kernel
theorem dX7_soundEndings_10 : decode cX7_soundEndings 10 = .ok (.goto 4, 3) := by decide +kernel
theorem dX7_soundEndings_13 : decode cX7_soundEndings 13 = .ok (.iconst 0, 1) := by decide +kernel
theorem dX7_soundEndings_14 : decode cX7_soundEndings 14 = .ok (.ireturn, 1) := by decide +kernel
theorem dX7_soundEndings_15 : decode cX7_soundEndings 15 = .ok (.iconst 0, 1) := by decide +kernel
theorem dX7_soundEndings_16 : decode cX7_soundEndings 16 = .ok (.istore 4, 2) := by decide +kernel
theorem dX7_soundEndings_18 : decode cX7_soundEndings 18 = .ok (.iconst 0, 1) := by decide +kernel
theorem dX7_soundEndings_19 : decode cX7_soundEndings 19 = .ok (.istore 5, 2) := by decide +kernel
theorem dX7_soundEndings_21 : decode cX7_soundEndings 21 = .ok (.iload 5, 2) := by decide +kernel
theorem dX7_soundEndings_23 : decode cX7_soundEndings 23 = .ok (.bipush 8, 2) := by decide +kernel
theorem dX7_soundEndings_25 : decode cX7_soundEndings 25 = .ok (.if_icmp .ge 56, 3) := by decide +kernel
theorem dX7_soundEndings_28 : decode cX7_soundEndings 28 = .ok (.iload 5, 2) := by decide +kernel
theorem dX7_soundEndings_30 : decode cX7_soundEndings 30 = .ok (.iload_n 3, 1) := by decide +kernel
theorem dX7_soundEndings_31 : decode cX7_soundEndings 31 = .ok (.if_icmp .gt 50, 3) := by decide +kernel
theorem dX7_soundEndings_34 : decode cX7_soundEndings 34 = .ok (.iload_n 1, 1) := by decide +kernel
theorem dX7_soundEndings_35 : decode cX7_soundEndings 35 = .ok (.iload 5, 2) := by decide +kernel
theorem dX7_soundEndings_37 : decode cX7_soundEndings 37 = .ok (.iadd, 1) := by decide +kernel
theorem dX7_soundEndings_38 : decode cX7_soundEndings 38 = .ok (.iload_n 0, 1) := by decide +kernel
theorem dX7_soundEndings_39 : decode cX7_soundEndings 39 = .ok (.invokestatic 244, 3) := by decide +kernel
theorem dX7_soundEndings_42 : decode cX7_soundEndings 42 = .ok (.istore 6, 2) := by decide +kernel
theorem dX7_soundEndings_44 : decode cX7_soundEndings 44 = .ok (.iload_n 2, 1) := by decide +kernel
theorem dX7_soundEndings_45 : decode cX7_soundEndings 45 = .ok (.iload 6, 2) := by decide +kernel
theorem dX7_soundEndings_47 : decode cX7_soundEndings 47 = .ok (.invokestatic 247, 3) := by decide +kernel
theorem dX7_soundEndings_50 : decode cX7_soundEndings 50 = .ok (.ifCond .ne 25, 3) := by decide +kernel
theorem dX7_soundEndings_53 : decode cX7_soundEndings 53 = .ok (.iload 4, 2) := by decide +kernel
theorem dX7_soundEndings_55 : decode cX7_soundEndings 55 = .ok (.iload_n 0, 1) := by decide +kernel
theorem dX7_soundEndings_56 : decode cX7_soundEndings 56 = .ok (.iload_n 1, 1) := by decide +kernel
theorem dX7_soundEndings_57 : decode cX7_soundEndings 57 = .ok (.iconst 1, 1) := by decide +kernel
theorem dX7_soundEndings_58 : decode cX7_soundEndings 58 = .ok (.iadd, 1) := by decide +kernel
theorem dX7_soundEndings_59 : decode cX7_soundEndings 59 = .ok (.iload_n 2, 1) := by decide +kernel
theorem dX7_soundEndings_60 : decode cX7_soundEndings 60 = .ok (.iconst 1, 1) := by decide +kernel
theorem dX7_soundEndings_61 : decode cX7_soundEndings 61 = .ok (.iload 6, 2) := by decide +kernel
theorem dX7_soundEndings_63 : decode cX7_soundEndings 63 = .ok (.ishl, 1) := by decide +kernel
theorem dX7_soundEndings_64 : decode cX7_soundEndings 64 = .ok (.ior, 1) := by decide +kernel
theorem dX7_soundEndings_65 : decode cX7_soundEndings 65 = .ok (.iload_n 3, 1) := by decide +kernel
theorem dX7_soundEndings_66 : decode cX7_soundEndings 66 = .ok (.iload 5, 2) := by decide +kernel
theorem dX7_soundEndings_68 : decode cX7_soundEndings 68 = .ok (.isub, 1) := by decide +kernel
theorem dX7_soundEndings_69 : decode cX7_soundEndings 69 = .ok (.invokestatic 205, 3) := by decide +kernel
theorem dX7_soundEndings_72 : decode cX7_soundEndings 72 = .ok (.iadd, 1) := by decide +kernel
theorem dX7_soundEndings_73 : decode cX7_soundEndings 73 = .ok (.istore 4, 2) := by decide +kernel
theorem dX7_soundEndings_75 : decode cX7_soundEndings 75 = .ok (.iinc 5 1, 3) := by decide +kernel
theorem dX7_soundEndings_78 : decode cX7_soundEndings 78 = .ok (.goto (-57), 3) := by decide +kernel
theorem dX7_soundEndings_81 : decode cX7_soundEndings 81 = .ok (.iload 4, 2) := by decide +kernel
theorem dX7_soundEndings_83 : decode cX7_soundEndings 83 = .ok (.ireturn, 1) := by decide +kernel
theorem dX8_init_0 : decode cX8_init 0 = .ok (.aload_n 0, 1) := by decide +kernel
theorem dX8_init_1 : decode cX8_init 1 = .ok (.invokespecial 1, 3) := by decide +kernel
theorem dX8_init_4 : decode cX8_init 4 = .ok (.aload_n 0, 1) := by decide +kernel
theorem dX8_init_5 : decode cX8_init 5 = .ok (.bipush 46, 2) := by decide +kernel
theorem dX8_init_7 : decode cX8_init 7 = .ok (.newarray .int, 2) := by decide +kernel
theorem dX8_init_9 : decode cX8_init 9 = .ok (.putfield 7, 3) := by decide +kernel
theorem dX8_init_12 : decode cX8_init 12 = .ok (.aload_n 0, 1) := by decide +kernel
theorem dX8_init_13 : decode cX8_init 13 = .ok (.bipush 46, 2) := by decide +kernel
theorem dX8_init_15 : decode cX8_init 15 = .ok (.newarray .int, 2) := by decide +kernel
theorem dX8_init_17 : decode cX8_init 17 = .ok (.putfield 13, 3) := by decide +kernel
theorem dX8_init_20 : decode cX8_init 20 = .ok (.aload_n 0, 1) := by decide +kernel
theorem dX8_init_21 : decode cX8_init 21 = .ok (.sipush 276, 3) := by decide +kernel
theorem dX8_init_24 : decode cX8_init 24 = .ok (.newarray .int, 2) := by decide +kernel
theorem dX8_init_26 : decode cX8_init 26 = .ok (.putfield 16, 3) := by decide +kernel
theorem dX8_init_29 : decode cX8_init 29 = .ok (.aload_n 0, 1) := by decide +kernel
theorem dX8_init_30 : decode cX8_init 30 = .ok (.bipush 92, 2) := by decide +kernel
theorem dX8_init_32 : decode cX8_init 32 = .ok (.newarray .int, 2) := by decide +kernel
theorem dX8_init_34 : decode cX8_init 34 = .ok (.putfield 19, 3) := by decide +kernel
theorem dX8_init_37 : decode cX8_init 37 = .ok (.aload_n 0, 1) := by decide +kernel
theorem dX8_init_38 : decode cX8_init 38 = .ok (.iconst 2, 1) := by decide +kernel
theorem dX8_init_39 : decode cX8_init 39 = .ok (.newarray .int, 2) := by decide +kernel
theorem dX8_init_41 : decode cX8_init 41 = .ok (.putfield 22, 3) := by decide +kernel
theorem dX8_init_44 : decode cX8_init 44 = .ok (.aload_n 0, 1) := by decide +kernel
theorem dX8_init_45 : decode cX8_init 45 = .ok (.bipush 30, 2) := by decide +kernel
theorem dX8_init_47 : decode cX8_init 47 = .ok (.newarray .int, 2) := by decide +kernel
theorem dX8_init_49 : decode cX8_init 49 = .ok (.putfield 25, 3) := by decide +kernel
theorem dX8_init_52 : decode cX8_init 52 = .ok (.aload_n 0, 1) := by decide +kernel
theorem dX8_init_53 : decode cX8_init 53 = .ok (.bipush 8, 2) := by decide +kernel
theorem dX8_init_55 : decode cX8_init 55 = .ok (.newarray .int, 2) := by decide +kernel
theorem dX8_init_57 : decode cX8_init 57 = .ok (.putfield 28, 3) := by decide +kernel
theorem dX8_init_60 : decode cX8_init 60 = .ok (.aload_n 0, 1) := by decide +kernel
theorem dX8_init_61 : decode cX8_init 61 = .ok (.bipush 8, 2) := by decide +kernel
theorem dX8_init_63 : decode cX8_init 63 = .ok (.newarray .int, 2) := by decide +kernel
theorem dX8_init_65 : decode cX8_init 65 = .ok (.putfield 31, 3) := by decide +kernel
theorem dX8_init_68 : decode cX8_init 68 = .ok (.aload_n 0, 1) := by decide +kernel
theorem dX8_init_69 : decode cX8_init 69 = .ok (.bipush 8, 2) := by decide +kernel
theorem dX8_init_71 : decode cX8_init 71 = .ok (.newarray .int, 2) := by decide +kernel
theorem dX8_init_73 : decode cX8_init 73 = .ok (.putfield 34, 3) := by decide +kernel
theorem dX8_init_76 : decode cX8_init 76 = .ok (.aload_n 0, 1) := by decide +kernel
theorem dX8_init_77 : decode cX8_init 77 = .ok (.sipush 256, 3) := by decide +kernel
theorem dX8_init_80 : decode cX8_init 80 = .ok (.newarray .int, 2) := by decide +kernel
theorem dX8_init_82 : decode cX8_init 82 = .ok (.putfield 37, 3) := by decide +kernel
theorem dX8_init_85 : decode cX8_init 85 = .ok (.aload_n 0, 1) := by decide +kernel
theorem dX8_init_86 : decode cX8_init 86 = .ok (.getfield 7, 3) := by decide +kernel
theorem dX8_init_89 : decode cX8_init 89 = .ok (.iconst 4, 1) := by decide +kernel
theorem dX8_init_90 : decode cX8_init 90 = .ok (.iconst 1, 1) := by decide +kernel
theorem dX8_init_91 : decode cX8_init 91 = .ok (.iastore, 1) := by decide +kernel
theorem dX8_init_92 : decode cX8_init 92 = .ok (.aload_n 0, 1) := by decide +kernel
theorem dX8_init_93 : decode cX8_init 93 = .ok (.getfield 7, 3) := by decide +kernel
theorem dX8_init_96 : decode cX8_init 96 = .ok (.iconst 5, 1) := by decide +kernel
theorem dX8_init_97 : decode cX8_init 97 = .ok (.iconst 1, 1) := by decide +kernel
theorem dX8_init_98 : decode cX8_init 98 = .ok (.iastore, 1) := by decide +kernel
theorem dX8_init_99 : decode cX8_init 99 = .ok (.return_, 1) := by decide +kernel
theorem dX8_in_0 : decode cX8_in 0 = .ok (.lload_n 0, 1) := by decide +kernel
theorem dX8_in_1 : decode cX8_in 1 = .ok (.lload_n 2, 1) := by decide +kernel
theorem dX8_in_2 : decode cX8_in 2 = .ok (.lcmp, 1) := by decide +kernel
theorem dX8_in_3 : decode cX8_in 3 = .ok (.ifCond .lt 14, 3) := by decide +kernel
theorem dX8_in_6 : decode cX8_in 6 = .ok (.lload_n 0, 1) := by decide +kernel
theorem dX8_in_7 : decode cX8_in 7 = .ok (.lload 4, 2) := by decide +kernel
theorem dX8_in_9 : decode cX8_in 9 = .ok (.lcmp, 1) := by decide +kernel
theorem dX8_in_10 : decode cX8_in 10 = .ok (.ifCond .gt 7, 3) := by decide +kernel
theorem dX8_in_13 : decode cX8_in 13 = .ok (.iconst 1, 1) := by decide +kernel
theorem dX8_in_14 : decode cX8_in 14 = .ok (.goto 4, 3) := by decide +kernel
theorem dX8_in_17 : decode cX8_in 17 = .ok (.iconst 0, 1) := by decide +kernel
theorem dX8_in_18 : decode cX8_in 18 = .ok (.ireturn, 1) := by decide +kernel
theorem dX8_keep_0 : decode cX8_keep 0 = .ok (.iconst 0, 1) := by decide +kernel
theorem dX8_keep_1 : decode cX8_keep 1 = .ok (.istore_n 1, 1) := by decide +kernel
theorem dX8_keep_2 : decode cX8_keep 2 = .ok (.iload_n 1, 1) := by decide +kernel
theorem dX8_keep_3 : decode cX8_keep 3 = .ok (.bipush 46, 2) := by decide +kernel
theorem dX8_keep_5 : decode cX8_keep 5 = .ok (.if_icmp .ge 21, 3) := by decide +kernel
theorem dX8_keep_8 : decode cX8_keep 8 = .ok (.aload_n 0, 1) := by decide +kernel
theorem dX8_keep_9 : decode cX8_keep 9 = .ok (.getfield 13, 3) := by decide +kernel
theorem dX8_keep_12 : decode cX8_keep 12 = .ok (.iload_n 1, 1) := by decide +kernel
theorem dX8_keep_13 : decode cX8_keep 13 = .ok (.aload_n 0, 1) := by decide +kernel
theorem dX8_keep_14 : decode cX8_keep 14 = .ok (.getfield 7, 3) := by decide +kernel
theorem dX8_keep_17 : decode cX8_keep 17 = .ok (.iload_n 1, 1) := by decide +kernel
theorem dX8_keep_18 : decode cX8_keep 18 = .ok (.iaload, 1) := by decide +kernel
theorem dX8_keep_19 : decode cX8_keep 19 = .ok (.iastore, 1) := by decide +kernel
theorem dX8_keep_20 : decode cX8_keep 20 = .ok (.iinc 1 1, 3) := by decide +kernel
theorem dX8_keep_23 : decode cX8_keep 23 = .ok (.goto (-21), 3) := by decide +kernel
theorem dX8_keep_26 : decode cX8_keep 26 = .ok (.return_, 1) := by decide +kernel
theorem dX8_giveBack_0 : decode cX8_giveBack 0 = .ok (.iconst 0, 1) := by decide +kernel
theorem dX8_giveBack_1 : decode cX8_giveBack 1 = .ok (.istore_n 1, 1) := by decide +kernel
theorem dX8_giveBack_2 : decode cX8_giveBack 2 = .ok (.iload_n 1, 1) := by decide +kernel
theorem dX8_giveBack_3 : decode cX8_giveBack 3 = .ok (.bipush 46, 2) := by decide +kernel
theorem dX8_giveBack_5 : decode cX8_giveBack 5 = .ok (.if_icmp .ge 21, 3) := by decide +kernel
theorem dX8_giveBack_8 : decode cX8_giveBack 8 = .ok (.aload_n 0, 1) := by decide +kernel
theorem dX8_giveBack_9 : decode cX8_giveBack 9 = .ok (.getfield 7, 3) := by decide +kernel
theorem dX8_giveBack_12 : decode cX8_giveBack 12 = .ok (.iload_n 1, 1) := by decide +kernel
theorem dX8_giveBack_13 : decode cX8_giveBack 13 = .ok (.aload_n 0, 1) := by decide +kernel
theorem dX8_giveBack_14 : decode cX8_giveBack 14 = .ok (.getfield 13, 3) := by decide +kernel
theorem dX8_giveBack_17 : decode cX8_giveBack 17 = .ok (.iload_n 1, 1) := by decide +kernel
theorem dX8_giveBack_18 : decode cX8_giveBack 18 = .ok (.iaload, 1) := by decide +kernel
theorem dX8_giveBack_19 : decode cX8_giveBack 19 = .ok (.iastore, 1) := by decide +kernel
theorem dX8_giveBack_20 : decode cX8_giveBack 20 = .ok (.iinc 1 1, 3) := by decide +kernel
theorem dX8_giveBack_23 : decode cX8_giveBack 23 = .ok (.goto (-21), 3) := by decide +kernel
theorem dX8_giveBack_26 : decode cX8_giveBack 26 = .ok (.return_, 1) := by decide +kernel
theorem dX8_changed_0 : decode cX8_changed 0 = .ok (.aload_n 0, 1) := by decide +kernel
theorem dX8_changed_1 : decode cX8_changed 1 = .ok (.getfield 40, 3) := by decide +kernel
theorem dX8_changed_4 : decode cX8_changed 4 = .ok (.bipush 6, 2) := by decide +kernel
theorem dX8_changed_6 : decode cX8_changed 6 = .ok (.if_icmp .ne 43, 3) := by decide +kernel
theorem dX8_changed_9 : decode cX8_changed 9 = .ok (.iconst 0, 1) := by decide +kernel
theorem dX8_changed_10 : decode cX8_changed 10 = .ok (.istore_n 2, 1) := by decide +kernel
theorem dX8_changed_11 : decode cX8_changed 11 = .ok (.iload_n 2, 1) := by decide +kernel
theorem dX8_changed_12 : decode cX8_changed 12 = .ok (.sipush 230, 3) := by decide +kernel
theorem dX8_changed_15 : decode cX8_changed 15 = .ok (.if_icmp .ge 24, 3) := by decide +kernel
theorem dX8_changed_18 : decode cX8_changed 18 = .ok (.aload_n 0, 1) := by decide +kernel
theorem dX8_changed_19 : decode cX8_changed 19 = .ok (.getfield 16, 3) := by decide +kernel
theorem dX8_changed_22 : decode cX8_changed 22 = .ok (.iload_n 2, 1) := by decide +kernel
theorem dX8_changed_23 : decode cX8_changed 23 = .ok (.aload_n 0, 1) := by decide +kernel
theorem dX8_changed_24 : decode cX8_changed 24 = .ok (.getfield 16, 3) := by decide +kernel
theorem dX8_changed_27 : decode cX8_changed 27 = .ok (.iload_n 2, 1) := by decide +kernel
theorem dX8_changed_28 : decode cX8_changed 28 = .ok (.bipush 46, 2) := by decide +kernel
theorem dX8_changed_30 : decode cX8_changed 30 = .ok (.iadd, 1) := by decide +kernel
theorem dX8_changed_31 : decode cX8_changed 31 = .ok (.iaload, 1) := by decide +kernel
theorem dX8_changed_32 : decode cX8_changed 32 = .ok (.iastore, 1) := by decide +kernel
theorem dX8_changed_33 : decode cX8_changed 33 = .ok (.iinc 2 1, 3) := by decide +kernel
theorem dX8_changed_36 : decode cX8_changed 36 = .ok (.goto (-25), 3) := by decide +kernel
theorem dX8_changed_39 : decode cX8_changed 39 = .ok (.aload_n 0, 1) := by decide +kernel
theorem dX8_changed_40 : decode cX8_changed 40 = .ok (.dup, 1) := by decide +kernel
theorem dX8_changed_41 : decode cX8_changed 41 = .ok (.getfield 40, 3) := by decide +kernel
theorem dX8_changed_44 : decode cX8_changed 44 = .ok (.iconst 1, 1) := by decide +kernel
theorem dX8_changed_45 : decode cX8_changed 45 = .ok (.isub, 1) := by decide +kernel
theorem dX8_changed_46 : decode cX8_changed 46 = .ok (.putfield 40, 3) := by decide +kernel
theorem dX8_changed_49 : decode cX8_changed 49 = .ok (.iconst 0, 1) := by decide +kernel
theorem dX8_changed_50 : decode cX8_changed 50 = .ok (.istore_n 2, 1) := by decide +kernel
theorem dX8_changed_51 : decode cX8_changed 51 = .ok (.iload_n 2, 1) := by decide +kernel
theorem dX8_changed_52 : decode cX8_changed 52 = .ok (.bipush 46, 2) := by decide +kernel
theorem dX8_changed_54 : decode cX8_changed 54 = .ok (.if_icmp .ge 29, 3) := by decide +kernel
theorem dX8_changed_57 : decode cX8_changed 57 = .ok (.aload_n 0, 1) := by decide +kernel
theorem dX8_changed_58 : decode cX8_changed 58 = .ok (.getfield 16, 3) := by decide +kernel
theorem dX8_changed_61 : decode cX8_changed 61 = .ok (.bipush 46, 2) := by decide +kernel
theorem dX8_changed_63 : decode cX8_changed 63 = .ok (.aload_n 0, 1) := by decide +kernel
theorem dX8_changed_64 : decode cX8_changed 64 = .ok (.getfield 40, 3) := by decide +kernel
theorem dX8_changed_67 : decode cX8_changed 67 = .ok (.imul, 1) := by decide +kernel
theorem dX8_changed_68 : decode cX8_changed 68 = .ok (.iload_n 2, 1) := by decide +kernel
theorem dX8_changed_69 : decode cX8_changed 69 = .ok (.iadd, 1) := by decide +kernel
theorem dX8_changed_70 : decode cX8_changed 70 = .ok (.aload_n 0, 1) := by decide +kernel
theorem dX8_changed_71 : decode cX8_changed 71 = .ok (.getfield 13, 3) := by decide +kernel
theorem dX8_changed_74 : decode cX8_changed 74 = .ok (.iload_n 2, 1) := by decide +kernel
theorem dX8_changed_75 : decode cX8_changed 75 = .ok (.iaload, 1) := by decide +kernel
theorem dX8_changed_76 : decode cX8_changed 76 = .ok (.iastore, 1) := by decide +kernel
theorem dX8_changed_77 : decode cX8_changed 77 = .ok (.iinc 2 1, 3) := by decide +kernel
theorem dX8_changed_80 : decode cX8_changed 80 = .ok (.goto (-29), 3) := by decide +kernel
theorem dX8_changed_83 : decode cX8_changed 83 = .ok (.aload_n 0, 1) := by decide +kernel
theorem dX8_changed_84 : decode cX8_changed 84 = .ok (.dup, 1) := by decide +kernel
theorem dX8_changed_85 : decode cX8_changed 85 = .ok (.getfield 40, 3) := by decide +kernel
theorem dX8_changed_88 : decode cX8_changed 88 = .ok (.iconst 1, 1) := by decide +kernel
theorem dX8_changed_89 : decode cX8_changed 89 = .ok (.iadd, 1) := by decide +kernel
theorem dX8_changed_90 : decode cX8_changed 90 = .ok (.putfield 40, 3) := by decide +kernel
theorem dX8_changed_93 : decode cX8_changed 93 = .ok (.iload_n 1, 1) := by decide +kernel
theorem dX8_changed_94 : decode cX8_changed 94 = .ok (.ireturn, 1) := by decide +kernel
theorem dX8_isJuggler_0 : decode cX8_isJuggler 0 = .ok (.iload_n 0, 1) := by decide +kernel
theorem dX8_isJuggler_1 : decode cX8_isJuggler 1 = .ok (.i2l, 1) := by decide +kernel
theorem dX8_isJuggler_2 : decode cX8_isJuggler 2 = .ok (.lconst 0, 1) := by decide +kernel
theorem dX8_isJuggler_3 : decode cX8_isJuggler 3 = .ok (.lconst 1, 1) := by decide +kernel
theorem dX8_isJuggler_4 : decode cX8_isJuggler 4 = .ok (.invokestatic 44, 3) := by decide +kernel
theorem dX8_isJuggler_7 : decode cX8_isJuggler 7 = .ok (.ireturn, 1) := by decide +kernel
theorem dX8_isBeat_0 : decode cX8_isBeat 0 = .ok (.iload_n 0, 1) := by decide +kernel
theorem dX8_isBeat_1 : decode cX8_isBeat 1 = .ok (.i2l, 1) := by decide +kernel
theorem dX8_isBeat_2 : decode cX8_isBeat 2 = .ok (.lconst 0, 1) := by decide +kernel
theorem dX8_isBeat_3 : decode cX8_isBeat 3 = .ok (.ldc2_w 48, 3) := by decide +kernel
theorem dX8_isBeat_6 : decode cX8_isBeat 6 = .ok (.invokestatic 44, 3) := by decide +kernel
theorem dX8_isBeat_9 : decode cX8_isBeat 9 = .ok (.ireturn, 1) := by decide +kernel
theorem dX8_bits_0 : decode cX8_bits 0 = .ok (.iconst 0, 1) := by decide +kernel
theorem dX8_bits_1 : decode cX8_bits 1 = .ok (.istore_n 1, 1) := by decide +kernel
theorem dX8_bits_2 : decode cX8_bits 2 = .ok (.iload_n 0, 1) := by decide +kernel
theorem dX8_bits_3 : decode cX8_bits 3 = .ok (.istore_n 2, 1) := by decide +kernel
theorem dX8_bits_4 : decode cX8_bits 4 = .ok (.iload_n 2, 1) := by decide +kernel
theorem dX8_bits_5 : decode cX8_bits 5 = .ok (.ifCond .eq 15, 3) := by decide +kernel
theorem dX8_bits_8 : decode cX8_bits 8 = .ok (.iinc 1 1, 3) := by decide +kernel
theorem dX8_bits_11 : decode cX8_bits 11 = .ok (.iload_n 2, 1) := by decide +kernel
theorem dX8_bits_12 : decode cX8_bits 12 = .ok (.iload_n 2, 1) := by decide +kernel
theorem dX8_bits_13 : decode cX8_bits 13 = .ok (.iconst 1, 1) := by decide +kernel
theorem dX8_bits_14 : decode cX8_bits 14 = .ok (.isub, 1) := by decide +kernel
theorem dX8_bits_15 : decode cX8_bits 15 = .ok (.iand, 1) := by decide +kernel
theorem dX8_bits_16 : decode cX8_bits 16 = .ok (.istore_n 2, 1) := by decide +kernel
theorem dX8_bits_17 : decode cX8_bits 17 = .ok (.goto (-13), 3) := by decide +kernel
theorem dX8_bits_20 : decode cX8_bits 20 = .ok (.iload_n 1, 1) := by decide +kernel
theorem dX8_bits_21 : decode cX8_bits 21 = .ok (.ireturn, 1) := by decide +kernel
theorem dX8_clubs_0 : decode cX8_clubs 0 = .ok (.aload_n 0, 1) := by decide +kernel
theorem dX8_clubs_1 : decode cX8_clubs 1 = .ok (.getfield 7, 3) := by decide +kernel
theorem dX8_clubs_4 : decode cX8_clubs 4 = .ok (.iconst 0, 1) := by decide +kernel
theorem dX8_clubs_5 : decode cX8_clubs 5 = .ok (.iaload, 1) := by decide +kernel
theorem dX8_clubs_6 : decode cX8_clubs 6 = .ok (.invokestatic 50, 3) := by decide +kernel
theorem dX8_clubs_9 : decode cX8_clubs 9 = .ok (.aload_n 0, 1) := by decide +kernel
theorem dX8_clubs_10 : decode cX8_clubs 10 = .ok (.getfield 7, 3) := by decide +kernel
theorem dX8_clubs_13 : decode cX8_clubs 13 = .ok (.iconst 1, 1) := by decide +kernel
theorem dX8_clubs_14 : decode cX8_clubs 14 = .ok (.iaload, 1) := by decide +kernel
theorem dX8_clubs_15 : decode cX8_clubs 15 = .ok (.invokestatic 50, 3) := by decide +kernel
theorem dX8_clubs_18 : decode cX8_clubs 18 = .ok (.iadd, 1) := by decide +kernel
theorem dX8_clubs_19 : decode cX8_clubs 19 = .ok (.aload_n 0, 1) := by decide +kernel
theorem dX8_clubs_20 : decode cX8_clubs 20 = .ok (.getfield 7, 3) := by decide +kernel
theorem dX8_clubs_23 : decode cX8_clubs 23 = .ok (.bipush 38, 2) := by decide +kernel
theorem dX8_clubs_25 : decode cX8_clubs 25 = .ok (.iaload, 1) := by decide +kernel
theorem dX8_clubs_26 : decode cX8_clubs 26 = .ok (.iadd, 1) := by decide +kernel
theorem dX8_clubs_27 : decode cX8_clubs 27 = .ok (.ireturn, 1) := by decide +kernel
theorem dX8_throwsOne_0 : decode cX8_throwsOne 0 = .ok (.bipush 8, 2) := by decide +kernel
theorem dX8_throwsOne_2 : decode cX8_throwsOne 2 = .ok (.iload_n 1, 1) := by decide +kernel
theorem dX8_throwsOne_3 : decode cX8_throwsOne 3 = .ok (.imul, 1) := by decide +kernel
theorem dX8_throwsOne_4 : decode cX8_throwsOne 4 = .ok (.aload_n 0, 1) := by decide +kernel
theorem dX8_throwsOne_5 : decode cX8_throwsOne 5 = .ok (.getfield 7, 3) := by decide +kernel
theorem dX8_throwsOne_8 : decode cX8_throwsOne 8 = .ok (.iconst 2, 1) := by decide +kernel
theorem dX8_throwsOne_9 : decode cX8_throwsOne 9 = .ok (.iload_n 1, 1) := by decide +kernel
theorem dX8_throwsOne_10 : decode cX8_throwsOne 10 = .ok (.iadd, 1) := by decide +kernel
theorem dX8_throwsOne_11 : decode cX8_throwsOne 11 = .ok (.iaload, 1) := by decide +kernel
theorem dX8_throwsOne_12 : decode cX8_throwsOne 12 = .ok (.iadd, 1) := by decide +kernel
theorem dX8_throwsOne_13 : decode cX8_throwsOne 13 = .ok (.istore_n 2, 1) := by decide +kernel
theorem dX8_throwsOne_14 : decode cX8_throwsOne 14 = .ok (.aload_n 0, 1) := by decide +kernel
theorem dX8_throwsOne_15 : decode cX8_throwsOne 15 = .ok (.getfield 7, 3) := by decide +kernel
theorem dX8_throwsOne_18 : decode cX8_throwsOne 18 = .ok (.bipush 6, 2) := by decide +kernel
theorem dX8_throwsOne_20 : decode cX8_throwsOne 20 = .ok (.iload_n 2, 1) := by decide +kernel
theorem dX8_throwsOne_21 : decode cX8_throwsOne 21 = .ok (.iadd, 1) := by decide +kernel
theorem dX8_throwsOne_22 : decode cX8_throwsOne 22 = .ok (.iaload, 1) := by decide +kernel
theorem dX8_throwsOne_23 : decode cX8_throwsOne 23 = .ok (.istore_n 3, 1) := by decide +kernel
theorem dX8_throwsOne_24 : decode cX8_throwsOne 24 = .ok (.aload_n 0, 1) := by decide +kernel
theorem dX8_throwsOne_25 : decode cX8_throwsOne 25 = .ok (.getfield 7, 3) := by decide +kernel
theorem dX8_throwsOne_28 : decode cX8_throwsOne 28 = .ok (.bipush 22, 2) := by decide +kernel
theorem dX8_throwsOne_30 : decode cX8_throwsOne 30 = .ok (.iload_n 2, 1) := by decide +kernel
theorem dX8_throwsOne_31 : decode cX8_throwsOne 31 = .ok (.iadd, 1) := by decide +kernel
theorem dX8_throwsOne_32 : decode cX8_throwsOne 32 = .ok (.iaload, 1) := by decide +kernel
theorem dX8_throwsOne_33 : decode cX8_throwsOne 33 = .ok (.iconst 1, 1) := by decide +kernel
theorem dX8_throwsOne_34 : decode cX8_throwsOne 34 = .ok (.if_icmp .ne 9, 3) := by decide +kernel
theorem dX8_throwsOne_37 : decode cX8_throwsOne 37 = .ok (.iconst 1, 1) := by decide +kernel
theorem dX8_throwsOne_38 : decode cX8_throwsOne 38 = .ok (.iload_n 1, 1) := by decide +kernel
theorem dX8_throwsOne_39 : decode cX8_throwsOne 39 = .ok (.isub, 1) := by decide +kernel
theorem dX8_throwsOne_40 : decode cX8_throwsOne 40 = .ok (.goto 4, 3) := by decide +kernel
theorem dX8_throwsOne_43 : decode cX8_throwsOne 43 = .ok (.iload_n 1, 1) := by decide +kernel
theorem dX8_throwsOne_44 : decode cX8_throwsOne 44 = .ok (.istore 4, 2) := by decide +kernel
theorem dX8_throwsOne_46 : decode cX8_throwsOne 46 = .ok (.aload_n 0, 1) := by decide +kernel
theorem dX8_throwsOne_47 : decode cX8_throwsOne 47 = .ok (.getfield 7, 3) := by decide +kernel
theorem dX8_throwsOne_50 : decode cX8_throwsOne 50 = .ok (.bipush 44, 2) := by decide +kernel
theorem dX8_throwsOne_52 : decode cX8_throwsOne 52 = .ok (.dup2, 1) := by decide +kernel
theorem dX8_throwsOne_53 : decode cX8_throwsOne 53 = .ok (.iaload, 1) := by decide +kernel
theorem dX8_throwsOne_54 : decode cX8_throwsOne 54 = .ok (.iconst 1, 1) := by decide +kernel
theorem dX8_throwsOne_55 : decode cX8_throwsOne 55 = .ok (.iadd, 1) := by decide +kernel
theorem dX8_throwsOne_56 : decode cX8_throwsOne 56 = .ok (.iastore, 1) := by decide +kernel
theorem dX8_throwsOne_57 : decode cX8_throwsOne 57 = .ok (.iload_n 3, 1) := by decide +kernel
theorem dX8_throwsOne_58 : decode cX8_throwsOne 58 = .ok (.ifCond .ne 30, 3) := by decide +kernel
theorem dX8_throwsOne_61 : decode cX8_throwsOne 61 = .ok (.aload_n 0, 1) := by decide +kernel
theorem dX8_throwsOne_62 : decode cX8_throwsOne 62 = .ok (.getfield 7, 3) := by decide +kernel
theorem dX8_throwsOne_65 : decode cX8_throwsOne 65 = .ok (.bipush 40, 2) := by decide +kernel
theorem dX8_throwsOne_67 : decode cX8_throwsOne 67 = .ok (.iload_n 1, 1) := by decide +kernel
theorem dX8_throwsOne_68 : decode cX8_throwsOne 68 = .ok (.iadd, 1) := by decide +kernel
theorem dX8_throwsOne_69 : decode cX8_throwsOne 69 = .ok (.dup2, 1) := by decide +kernel
theorem dX8_throwsOne_70 : decode cX8_throwsOne 70 = .ok (.iaload, 1) := by decide +kernel
theorem dX8_throwsOne_71 : decode cX8_throwsOne 71 = .ok (.iconst 1, 1) := by decide +kernel
theorem dX8_throwsOne_72 : decode cX8_throwsOne 72 = .ok (.iadd, 1) := by decide +kernel
theorem dX8_throwsOne_73 : decode cX8_throwsOne 73 = .ok (.iastore, 1) := by decide +kernel
theorem dX8_throwsOne_74 : decode cX8_throwsOne 74 = .ok (.aload_n 0, 1) := by decide +kernel
theorem dX8_throwsOne_75 : decode cX8_throwsOne 75 = .ok (.getfield 7, 3) := by decide +kernel
theorem dX8_throwsOne_78 : decode cX8_throwsOne 78 = .ok (.bipush 38, 2) := by decide +kernel
theorem dX8_throwsOne_80 : decode cX8_throwsOne 80 = .ok (.dup2, 1) := by decide +kernel
theorem dX8_throwsOne_81 : decode cX8_throwsOne 81 = .ok (.iaload, 1) := by decide +kernel
theorem dX8_throwsOne_82 : decode cX8_throwsOne 82 = .ok (.iconst 1, 1) := by decide +kernel
theorem dX8_throwsOne_83 : decode cX8_throwsOne 83 = .ok (.iadd, 1) := by decide +kernel
theorem dX8_throwsOne_84 : decode cX8_throwsOne 84 = .ok (.iastore, 1) := by decide +kernel
theorem dX8_throwsOne_85 : decode cX8_throwsOne 85 = .ok (.goto 81, 3) := by decide +kernel
theorem dX8_throwsOne_88 : decode cX8_throwsOne 88 = .ok (.aload_n 0, 1) := by decide +kernel
theorem dX8_throwsOne_89 : decode cX8_throwsOne 89 = .ok (.getfield 7, 3) := by decide +kernel
theorem dX8_throwsOne_92 : decode cX8_throwsOne 92 = .ok (.iconst 0, 1) := by decide +kernel
theorem dX8_throwsOne_93 : decode cX8_throwsOne 93 = .ok (.iload 4, 2) := by decide +kernel
theorem dX8_throwsOne_95 : decode cX8_throwsOne 95 = .ok (.iadd, 1) := by decide +kernel
theorem dX8_throwsOne_96 : decode cX8_throwsOne 96 = .ok (.iaload, 1) := by decide +kernel
theorem dX8_throwsOne_97 : decode cX8_throwsOne 97 = .ok (.iload_n 3, 1) := by decide +kernel
theorem dX8_throwsOne_98 : decode cX8_throwsOne 98 = .ok (.ishr, 1) := by decide +kernel
theorem dX8_throwsOne_99 : decode cX8_throwsOne 99 = .ok (.iconst 1, 1) := by decide +kernel
theorem dX8_throwsOne_100 : decode cX8_throwsOne 100 = .ok (.iand, 1) := by decide +kernel
theorem dX8_throwsOne_101 : decode cX8_throwsOne 101 = .ok (.iconst 1, 1) := by decide +kernel
theorem dX8_throwsOne_102 : decode cX8_throwsOne 102 = .ok (.if_icmp .ne 30, 3) := by decide +kernel
theorem dX8_throwsOne_105 : decode cX8_throwsOne 105 = .ok (.aload_n 0, 1) := by decide +kernel
theorem dX8_throwsOne_106 : decode cX8_throwsOne 106 = .ok (.getfield 7, 3) := by decide +kernel
theorem dX8_throwsOne_109 : decode cX8_throwsOne 109 = .ok (.bipush 42, 2) := by decide +kernel
theorem dX8_throwsOne_111 : decode cX8_throwsOne 111 = .ok (.iload_n 1, 1) := by decide +kernel
theorem dX8_throwsOne_112 : decode cX8_throwsOne 112 = .ok (.iadd, 1) := by decide +kernel
theorem dX8_throwsOne_113 : decode cX8_throwsOne 113 = .ok (.dup2, 1) := by decide +kernel
theorem dX8_throwsOne_114 : decode cX8_throwsOne 114 = .ok (.iaload, 1) := by decide +kernel
theorem dX8_throwsOne_115 : decode cX8_throwsOne 115 = .ok (.iconst 1, 1) := by decide +kernel
theorem dX8_throwsOne_116 : decode cX8_throwsOne 116 = .ok (.iadd, 1) := by decide +kernel
theorem dX8_throwsOne_117 : decode cX8_throwsOne 117 = .ok (.iastore, 1) := by decide +kernel
theorem dX8_throwsOne_118 : decode cX8_throwsOne 118 = .ok (.aload_n 0, 1) := by decide +kernel
theorem dX8_throwsOne_119 : decode cX8_throwsOne 119 = .ok (.getfield 7, 3) := by decide +kernel
theorem dX8_throwsOne_122 : decode cX8_throwsOne 122 = .ok (.bipush 38, 2) := by decide +kernel
theorem dX8_throwsOne_124 : decode cX8_throwsOne 124 = .ok (.dup2, 1) := by decide +kernel
theorem dX8_throwsOne_125 : decode cX8_throwsOne 125 = .ok (.iaload, 1) := by decide +kernel
theorem dX8_throwsOne_126 : decode cX8_throwsOne 126 = .ok (.iconst 1, 1) := by decide +kernel
theorem dX8_throwsOne_127 : decode cX8_throwsOne 127 = .ok (.iadd, 1) := by decide +kernel
theorem dX8_throwsOne_128 : decode cX8_throwsOne 128 = .ok (.iastore, 1) := by decide +kernel
theorem dX8_throwsOne_129 : decode cX8_throwsOne 129 = .ok (.goto 37, 3) := by decide +kernel
theorem dX8_throwsOne_132 : decode cX8_throwsOne 132 = .ok (.aload_n 0, 1) := by decide +kernel
theorem dX8_throwsOne_133 : decode cX8_throwsOne 133 = .ok (.getfield 7, 3) := by decide +kernel
theorem dX8_throwsOne_136 : decode cX8_throwsOne 136 = .ok (.iconst 0, 1) := by decide +kernel
theorem dX8_throwsOne_137 : decode cX8_throwsOne 137 = .ok (.iload 4, 2) := by decide +kernel
theorem dX8_throwsOne_139 : decode cX8_throwsOne 139 = .ok (.iadd, 1) := by decide +kernel
theorem dX8_throwsOne_140 : decode cX8_throwsOne 140 = .ok (.dup2, 1) := by decide +kernel
theorem dX8_throwsOne_141 : decode cX8_throwsOne 141 = .ok (.iaload, 1) := by decide +kernel
theorem dX8_throwsOne_142 : decode cX8_throwsOne 142 = .ok (.iconst 1, 1) := by decide +kernel
theorem dX8_throwsOne_143 : decode cX8_throwsOne 143 = .ok (.iload_n 3, 1) := by decide +kernel
theorem dX8_throwsOne_144 : decode cX8_throwsOne 144 = .ok (.ishl, 1) := by decide +kernel
theorem dX8_throwsOne_145 : decode cX8_throwsOne 145 = .ok (.ior, 1) := by decide +kernel
theorem dX8_throwsOne_146 : decode cX8_throwsOne 146 = .ok (.iastore, 1) := by decide +kernel
theorem dX8_throwsOne_147 : decode cX8_throwsOne 147 = .ok (.aload_n 0, 1) := by decide +kernel
theorem dX8_throwsOne_148 : decode cX8_throwsOne 148 = .ok (.getfield 7, 3) := by decide +kernel
theorem dX8_throwsOne_151 : decode cX8_throwsOne 151 = .ok (.bipush 45, 2) := by decide +kernel
theorem dX8_throwsOne_153 : decode cX8_throwsOne 153 = .ok (.dup2, 1) := by decide +kernel
theorem dX8_throwsOne_154 : decode cX8_throwsOne 154 = .ok (.iaload, 1) := by decide +kernel
theorem dX8_throwsOne_155 : decode cX8_throwsOne 155 = .ok (.aload_n 0, 1) := by decide +kernel
theorem dX8_throwsOne_156 : decode cX8_throwsOne 156 = .ok (.getfield 7, 3) := by decide +kernel
theorem dX8_throwsOne_159 : decode cX8_throwsOne 159 = .ok (.bipush 22, 2) := by decide +kernel
theorem dX8_throwsOne_161 : decode cX8_throwsOne 161 = .ok (.iload_n 2, 1) := by decide +kernel
theorem dX8_throwsOne_162 : decode cX8_throwsOne 162 = .ok (.iadd, 1) := by decide +kernel
theorem dX8_throwsOne_163 : decode cX8_throwsOne 163 = .ok (.iaload, 1) := by decide +kernel
theorem dX8_throwsOne_164 : decode cX8_throwsOne 164 = .ok (.iadd, 1) := by decide +kernel
theorem dX8_throwsOne_165 : decode cX8_throwsOne 165 = .ok (.iastore, 1) := by decide +kernel
theorem dX8_throwsOne_166 : decode cX8_throwsOne 166 = .ok (.return_, 1) := by decide +kernel
theorem dX8_beats_0 : decode cX8_beats 0 = .ok (.iconst 0, 1) := by decide +kernel
theorem dX8_beats_1 : decode cX8_beats 1 = .ok (.istore_n 1, 1) := by decide +kernel
theorem dX8_beats_2 : decode cX8_beats 2 = .ok (.iload_n 1, 1) := by decide +kernel
theorem dX8_beats_3 : decode cX8_beats 3 = .ok (.iconst 2, 1) := by decide +kernel
theorem dX8_beats_4 : decode cX8_beats 4 = .ok (.if_icmp .ge 28, 3) := by decide +kernel
theorem dX8_beats_7 : decode cX8_beats 7 = .ok (.aload_n 0, 1) := by decide +kernel
theorem dX8_beats_8 : decode cX8_beats 8 = .ok (.getfield 7, 3) := by decide +kernel
theorem dX8_beats_11 : decode cX8_beats 11 = .ok (.iconst 0, 1) := by decide +kernel
theorem dX8_beats_12 : decode cX8_beats 12 = .ok (.iload_n 1, 1) := by decide +kernel
theorem dX8_beats_13 : decode cX8_beats 13 = .ok (.iadd, 1) := by decide +kernel
theorem dX8_beats_14 : decode cX8_beats 14 = .ok (.iaload, 1) := by decide +kernel
theorem dX8_beats_15 : decode cX8_beats 15 = .ok (.iconst 1, 1) := by decide +kernel
theorem dX8_beats_16 : decode cX8_beats 16 = .ok (.iand, 1) := by decide +kernel
theorem dX8_beats_17 : decode cX8_beats 17 = .ok (.iconst 1, 1) := by decide +kernel
theorem dX8_beats_18 : decode cX8_beats 18 = .ok (.if_icmp .ne 8, 3) := by decide +kernel
theorem dX8_beats_21 : decode cX8_beats 21 = .ok (.aload_n 0, 1) := by decide +kernel
theorem dX8_beats_22 : decode cX8_beats 22 = .ok (.iload_n 1, 1) := by decide +kernel
theorem dX8_beats_23 : decode cX8_beats 23 = .ok (.invokevirtual 54, 3) := by decide +kernel
theorem dX8_beats_26 : decode cX8_beats 26 = .ok (.iinc 1 1, 3) := by decide +kernel
theorem dX8_beats_29 : decode cX8_beats 29 = .ok (.goto (-27), 3) := by decide +kernel
theorem dX8_beats_32 : decode cX8_beats 32 = .ok (.iconst 0, 1) := by decide +kernel
theorem dX8_beats_33 : decode cX8_beats 33 = .ok (.istore_n 1, 1) := by decide +kernel
theorem dX8_beats_34 : decode cX8_beats 34 = .ok (.iload_n 1, 1) := by decide +kernel
theorem dX8_beats_35 : decode cX8_beats 35 = .ok (.iconst 2, 1) := by decide +kernel
theorem dX8_beats_36 : decode cX8_beats 36 = .ok (.if_icmp .ge 48, 3) := by decide +kernel
theorem dX8_beats_39 : decode cX8_beats 39 = .ok (.aload_n 0, 1) := by decide +kernel
theorem dX8_beats_40 : decode cX8_beats 40 = .ok (.getfield 7, 3) := by decide +kernel
theorem dX8_beats_43 : decode cX8_beats 43 = .ok (.iconst 0, 1) := by decide +kernel
theorem dX8_beats_44 : decode cX8_beats 44 = .ok (.iload_n 1, 1) := by decide +kernel
theorem dX8_beats_45 : decode cX8_beats 45 = .ok (.iadd, 1) := by decide +kernel
theorem dX8_beats_46 : decode cX8_beats 46 = .ok (.dup2, 1) := by decide +kernel
theorem dX8_beats_47 : decode cX8_beats 47 = .ok (.iaload, 1) := by decide +kernel
theorem dX8_beats_48 : decode cX8_beats 48 = .ok (.iconst 1, 1) := by decide +kernel
theorem dX8_beats_49 : decode cX8_beats 49 = .ok (.ishr, 1) := by decide +kernel
theorem dX8_beats_50 : decode cX8_beats 50 = .ok (.iastore, 1) := by decide +kernel
theorem dX8_beats_51 : decode cX8_beats 51 = .ok (.aload_n 0, 1) := by decide +kernel
theorem dX8_beats_52 : decode cX8_beats 52 = .ok (.getfield 7, 3) := by decide +kernel
theorem dX8_beats_55 : decode cX8_beats 55 = .ok (.iconst 2, 1) := by decide +kernel
theorem dX8_beats_56 : decode cX8_beats 56 = .ok (.iload_n 1, 1) := by decide +kernel
theorem dX8_beats_57 : decode cX8_beats 57 = .ok (.iadd, 1) := by decide +kernel
theorem dX8_beats_58 : decode cX8_beats 58 = .ok (.aload_n 0, 1) := by decide +kernel
theorem dX8_beats_59 : decode cX8_beats 59 = .ok (.getfield 7, 3) := by decide +kernel
theorem dX8_beats_62 : decode cX8_beats 62 = .ok (.iconst 2, 1) := by decide +kernel
theorem dX8_beats_63 : decode cX8_beats 63 = .ok (.iload_n 1, 1) := by decide +kernel
theorem dX8_beats_64 : decode cX8_beats 64 = .ok (.iadd, 1) := by decide +kernel
theorem dX8_beats_65 : decode cX8_beats 65 = .ok (.iaload, 1) := by decide +kernel
theorem dX8_beats_66 : decode cX8_beats 66 = .ok (.iconst 1, 1) := by decide +kernel
theorem dX8_beats_67 : decode cX8_beats 67 = .ok (.iadd, 1) := by decide +kernel
theorem dX8_beats_68 : decode cX8_beats 68 = .ok (.aload_n 0, 1) := by decide +kernel
theorem dX8_beats_69 : decode cX8_beats 69 = .ok (.getfield 7, 3) := by decide +kernel
theorem dX8_beats_72 : decode cX8_beats 72 = .ok (.iconst 4, 1) := by decide +kernel
theorem dX8_beats_73 : decode cX8_beats 73 = .ok (.iload_n 1, 1) := by decide +kernel
theorem dX8_beats_74 : decode cX8_beats 74 = .ok (.iadd, 1) := by decide +kernel
theorem dX8_beats_75 : decode cX8_beats 75 = .ok (.iaload, 1) := by decide +kernel
theorem dX8_beats_76 : decode cX8_beats 76 = .ok (.irem, 1) := by decide +kernel
theorem dX8_beats_77 : decode cX8_beats 77 = .ok (.iastore, 1) := by decide +kernel
theorem dX8_beats_78 : decode cX8_beats 78 = .ok (.iinc 1 1, 3) := by decide +kernel
theorem dX8_beats_81 : decode cX8_beats 81 = .ok (.goto (-47), 3) := by decide +kernel
theorem dX8_beats_84 : decode cX8_beats 84 = .ok (.aload_n 0, 1) := by decide +kernel
theorem dX8_beats_85 : decode cX8_beats 85 = .ok (.getfield 7, 3) := by decide +kernel
theorem dX8_beats_88 : decode cX8_beats 88 = .ok (.bipush 39, 2) := by decide +kernel
theorem dX8_beats_90 : decode cX8_beats 90 = .ok (.dup2, 1) := by decide +kernel
theorem dX8_beats_91 : decode cX8_beats 91 = .ok (.iaload, 1) := by decide +kernel
theorem dX8_beats_92 : decode cX8_beats 92 = .ok (.iconst 1, 1) := by decide +kernel
theorem dX8_beats_93 : decode cX8_beats 93 = .ok (.iadd, 1) := by decide +kernel
theorem dX8_beats_94 : decode cX8_beats 94 = .ok (.iastore, 1) := by decide +kernel
theorem dX8_beats_95 : decode cX8_beats 95 = .ok (.return_, 1) := by decide +kernel
theorem dX8_start_0 : decode cX8_start 0 = .ok (.iload_n 1, 1) := by decide +kernel
theorem dX8_start_1 : decode cX8_start 1 = .ok (.i2l, 1) := by decide +kernel
theorem dX8_start_2 : decode cX8_start 2 = .ok (.lconst 0, 1) := by decide +kernel
theorem dX8_start_3 : decode cX8_start 3 = .ok (.ldc2_w 58, 3) := by decide +kernel
theorem dX8_start_6 : decode cX8_start 6 = .ok (.invokestatic 44, 3) := by decide +kernel
theorem dX8_start_9 : decode cX8_start 9 = .ok (.ifCond .eq 15, 3) := by decide +kernel
theorem dX8_start_12 : decode cX8_start 12 = .ok (.iload_n 2, 1) := by decide +kernel
theorem dX8_start_13 : decode cX8_start 13 = .ok (.i2l, 1) := by decide +kernel
theorem dX8_start_14 : decode cX8_start 14 = .ok (.lconst 0, 1) := by decide +kernel
theorem dX8_start_15 : decode cX8_start 15 = .ok (.ldc2_w 58, 3) := by decide +kernel
theorem dX8_start_18 : decode cX8_start 18 = .ok (.invokestatic 44, 3) := by decide +kernel
theorem dX8_start_21 : decode cX8_start 21 = .ok (.ifCond .ne 6, 3) := by decide +kernel
theorem dX8_start_24 : decode cX8_start 24 = .ok (.bipush (-2), 2) := by decide +kernel
theorem dX8_start_26 : decode cX8_start 26 = .ok (.ireturn, 1) := by decide +kernel
theorem dX8_start_27 : decode cX8_start 27 = .ok (.aload_n 0, 1) := by decide +kernel
theorem dX8_start_28 : decode cX8_start 28 = .ok (.invokevirtual 60, 3) := by decide +kernel
theorem dX8_start_31 : decode cX8_start 31 = .ok (.aload_n 0, 1) := by decide +kernel
theorem dX8_start_32 : decode cX8_start 32 = .ok (.invokevirtual 63, 3) := by decide +kernel
theorem dX8_start_35 : decode cX8_start 35 = .ok (.istore_n 3, 1) := by decide +kernel
theorem dX8_start_36 : decode cX8_start 36 = .ok (.aload_n 0, 1) := by decide +kernel
theorem dX8_start_37 : decode cX8_start 37 = .ok (.getfield 7, 3) := by decide +kernel
theorem dX8_start_40 : decode cX8_start 40 = .ok (.iconst 0, 1) := by decide +kernel
theorem dX8_start_41 : decode cX8_start 41 = .ok (.iconst 1, 1) := by decide +kernel
theorem dX8_start_42 : decode cX8_start 42 = .ok (.iload_n 1, 1) := by decide +kernel
theorem dX8_start_43 : decode cX8_start 43 = .ok (.ishl, 1) := by decide +kernel
theorem dX8_start_44 : decode cX8_start 44 = .ok (.iconst 1, 1) := by decide +kernel
theorem dX8_start_45 : decode cX8_start 45 = .ok (.isub, 1) := by decide +kernel
theorem dX8_start_46 : decode cX8_start 46 = .ok (.iastore, 1) := by decide +kernel
theorem dX8_start_47 : decode cX8_start 47 = .ok (.aload_n 0, 1) := by decide +kernel
theorem dX8_start_48 : decode cX8_start 48 = .ok (.getfield 7, 3) := by decide +kernel
theorem dX8_start_51 : decode cX8_start 51 = .ok (.iconst 1, 1) := by decide +kernel
theorem dX8_start_52 : decode cX8_start 52 = .ok (.iconst 1, 1) := by decide +kernel
theorem dX8_start_53 : decode cX8_start 53 = .ok (.iload_n 2, 1) := by decide +kernel
theorem dX8_start_54 : decode cX8_start 54 = .ok (.ishl, 1) := by decide +kernel
theorem dX8_start_55 : decode cX8_start 55 = .ok (.iconst 1, 1) := by decide +kernel
theorem dX8_start_56 : decode cX8_start 56 = .ok (.isub, 1) := by decide +kernel
theorem dX8_start_57 : decode cX8_start 57 = .ok (.iastore, 1) := by decide +kernel
theorem dX8_start_58 : decode cX8_start 58 = .ok (.aload_n 0, 1) := by decide +kernel
theorem dX8_start_59 : decode cX8_start 59 = .ok (.getfield 7, 3) := by decide +kernel
theorem dX8_start_62 : decode cX8_start 62 = .ok (.iconst 2, 1) := by decide +kernel
theorem dX8_start_63 : decode cX8_start 63 = .ok (.iconst 0, 1) := by decide +kernel
theorem dX8_start_64 : decode cX8_start 64 = .ok (.iastore, 1) := by decide +kernel
theorem dX8_start_65 : decode cX8_start 65 = .ok (.aload_n 0, 1) := by decide +kernel
theorem dX8_start_66 : decode cX8_start 66 = .ok (.getfield 7, 3) := by decide +kernel
theorem dX8_start_69 : decode cX8_start 69 = .ok (.iconst 3, 1) := by decide +kernel
theorem dX8_start_70 : decode cX8_start 70 = .ok (.iconst 0, 1) := by decide +kernel
theorem dX8_start_71 : decode cX8_start 71 = .ok (.iastore, 1) := by decide +kernel
theorem dX8_start_72 : decode cX8_start 72 = .ok (.bipush 38, 2) := by decide +kernel
theorem dX8_start_74 : decode cX8_start 74 = .ok (.istore 4, 2) := by decide +kernel
theorem dX8_start_76 : decode cX8_start 76 = .ok (.iload 4, 2) := by decide +kernel
theorem dX8_start_78 : decode cX8_start 78 = .ok (.bipush 46, 2) := by decide +kernel
theorem dX8_start_80 : decode cX8_start 80 = .ok (.if_icmp .ge 17, 3) := by decide +kernel
theorem dX8_start_83 : decode cX8_start 83 = .ok (.aload_n 0, 1) := by decide +kernel
theorem dX8_start_84 : decode cX8_start 84 = .ok (.getfield 7, 3) := by decide +kernel
theorem dX8_start_87 : decode cX8_start 87 = .ok (.iload 4, 2) := by decide +kernel
theorem dX8_start_89 : decode cX8_start 89 = .ok (.iconst 0, 1) := by decide +kernel
theorem dX8_start_90 : decode cX8_start 90 = .ok (.iastore, 1) := by decide +kernel
theorem dX8_start_91 : decode cX8_start 91 = .ok (.iinc 4 1, 3) := by decide +kernel
theorem dX8_start_94 : decode cX8_start 94 = .ok (.goto (-18), 3) := by decide +kernel
theorem dX8_start_97 : decode cX8_start 97 = .ok (.aload_n 0, 1) := by decide +kernel
theorem dX8_start_98 : decode cX8_start 98 = .ok (.iload_n 3, 1) := by decide +kernel
theorem dX8_start_99 : decode cX8_start 99 = .ok (.invokevirtual 67, 3) := by decide +kernel
theorem dX8_start_102 : decode cX8_start 102 = .ok (.ireturn, 1) := by decide +kernel
theorem dX8_pass_0 : decode cX8_pass 0 = .ok (.iload_n 1, 1) := by decide +kernel
theorem dX8_pass_1 : decode cX8_pass 1 = .ok (.i2l, 1) := by decide +kernel
theorem dX8_pass_2 : decode cX8_pass 2 = .ok (.lconst 1, 1) := by decide +kernel
theorem dX8_pass_3 : decode cX8_pass 3 = .ok (.ldc2_w 70, 3) := by decide +kernel
theorem dX8_pass_6 : decode cX8_pass 6 = .ok (.invokestatic 44, 3) := by decide +kernel
theorem dX8_pass_9 : decode cX8_pass 9 = .ok (.ifCond .ne 6, 3) := by decide +kernel
theorem dX8_pass_12 : decode cX8_pass 12 = .ok (.bipush (-2), 2) := by decide +kernel
theorem dX8_pass_14 : decode cX8_pass 14 = .ok (.ireturn, 1) := by decide +kernel
theorem dX8_pass_15 : decode cX8_pass 15 = .ok (.aload_n 0, 1) := by decide +kernel
theorem dX8_pass_16 : decode cX8_pass 16 = .ok (.getfield 7, 3) := by decide +kernel
theorem dX8_pass_19 : decode cX8_pass 19 = .ok (.bipush 39, 2) := by decide +kernel
theorem dX8_pass_21 : decode cX8_pass 21 = .ok (.iaload, 1) := by decide +kernel
theorem dX8_pass_22 : decode cX8_pass 22 = .ok (.iload_n 1, 1) := by decide +kernel
theorem dX8_pass_23 : decode cX8_pass 23 = .ok (.iadd, 1) := by decide +kernel
theorem dX8_pass_24 : decode cX8_pass 24 = .ok (.ldc 72, 2) := by decide +kernel
theorem dX8_pass_26 : decode cX8_pass 26 = .ok (.if_icmp .le 6, 3) := by decide +kernel
theorem dX8_pass_29 : decode cX8_pass 29 = .ok (.bipush (-4), 2) := by decide +kernel
theorem dX8_pass_31 : decode cX8_pass 31 = .ok (.ireturn, 1) := by decide +kernel
theorem dX8_pass_32 : decode cX8_pass 32 = .ok (.aload_n 0, 1) := by decide +kernel
theorem dX8_pass_33 : decode cX8_pass 33 = .ok (.invokevirtual 60, 3) := by decide +kernel
theorem dX8_pass_36 : decode cX8_pass 36 = .ok (.aload_n 0, 1) := by decide +kernel
theorem dX8_pass_37 : decode cX8_pass 37 = .ok (.getfield 7, 3) := by decide +kernel
theorem dX8_pass_40 : decode cX8_pass 40 = .ok (.bipush 38, 2) := by decide +kernel
theorem dX8_pass_42 : decode cX8_pass 42 = .ok (.iaload, 1) := by decide +kernel
theorem dX8_pass_43 : decode cX8_pass 43 = .ok (.istore_n 2, 1) := by decide +kernel
theorem dX8_pass_44 : decode cX8_pass 44 = .ok (.iconst 0, 1) := by decide +kernel
theorem dX8_pass_45 : decode cX8_pass 45 = .ok (.istore_n 3, 1) := by decide +kernel
theorem dX8_pass_46 : decode cX8_pass 46 = .ok (.iload_n 3, 1) := by decide +kernel
theorem dX8_pass_47 : decode cX8_pass 47 = .ok (.iload_n 1, 1) := by decide +kernel
theorem dX8_pass_48 : decode cX8_pass 48 = .ok (.if_icmp .ge 13, 3) := by decide +kernel
theorem dX8_pass_51 : decode cX8_pass 51 = .ok (.aload_n 0, 1) := by decide +kernel
theorem dX8_pass_52 : decode cX8_pass 52 = .ok (.invokevirtual 73, 3) := by decide +kernel
theorem dX8_pass_55 : decode cX8_pass 55 = .ok (.iinc 3 1, 3) := by decide +kernel
theorem dX8_pass_58 : decode cX8_pass 58 = .ok (.goto (-12), 3) := by decide +kernel
theorem dX8_pass_61 : decode cX8_pass 61 = .ok (.aload_n 0, 1) := by decide +kernel
theorem dX8_pass_62 : decode cX8_pass 62 = .ok (.aload_n 0, 1) := by decide +kernel
theorem dX8_pass_63 : decode cX8_pass 63 = .ok (.getfield 7, 3) := by decide +kernel
theorem dX8_pass_66 : decode cX8_pass 66 = .ok (.bipush 38, 2) := by decide +kernel
theorem dX8_pass_68 : decode cX8_pass 68 = .ok (.iaload, 1) := by decide +kernel
theorem dX8_pass_69 : decode cX8_pass 69 = .ok (.iload_n 2, 1) := by decide +kernel
theorem dX8_pass_70 : decode cX8_pass 70 = .ok (.isub, 1) := by decide +kernel
theorem dX8_pass_71 : decode cX8_pass 71 = .ok (.invokevirtual 67, 3) := by decide +kernel
theorem dX8_pass_74 : decode cX8_pass 74 = .ok (.ireturn, 1) := by decide +kernel
theorem dX8_comes_0 : decode cX8_comes 0 = .ok (.aload_n 0, 1) := by decide +kernel
theorem dX8_comes_1 : decode cX8_comes 1 = .ok (.getfield 7, 3) := by decide +kernel
theorem dX8_comes_4 : decode cX8_comes 4 = .ok (.iconst 0, 1) := by decide +kernel
theorem dX8_comes_5 : decode cX8_comes 5 = .ok (.iload_n 1, 1) := by decide +kernel
theorem dX8_comes_6 : decode cX8_comes 6 = .ok (.iadd, 1) := by decide +kernel
theorem dX8_comes_7 : decode cX8_comes 7 = .ok (.iaload, 1) := by decide +kernel
theorem dX8_comes_8 : decode cX8_comes 8 = .ok (.iload_n 2, 1) := by decide +kernel
theorem dX8_comes_9 : decode cX8_comes 9 = .ok (.ishr, 1) := by decide +kernel
theorem dX8_comes_10 : decode cX8_comes 10 = .ok (.iconst 1, 1) := by decide +kernel
theorem dX8_comes_11 : decode cX8_comes 11 = .ok (.iand, 1) := by decide +kernel
theorem dX8_comes_12 : decode cX8_comes 12 = .ok (.iconst 1, 1) := by decide +kernel
theorem dX8_comes_13 : decode cX8_comes 13 = .ok (.if_icmp .ne 7, 3) := by decide +kernel
theorem dX8_comes_16 : decode cX8_comes 16 = .ok (.iconst 1, 1) := by decide +kernel
theorem dX8_comes_17 : decode cX8_comes 17 = .ok (.goto 4, 3) := by decide +kernel
theorem dX8_comes_20 : decode cX8_comes 20 = .ok (.iconst 0, 1) := by decide +kernel
theorem dX8_comes_21 : decode cX8_comes 21 = .ok (.ireturn, 1) := by decide +kernel
theorem dX8_drop_0 : decode cX8_drop 0 = .ok (.iload_n 1, 1) := by decide +kernel
theorem dX8_drop_1 : decode cX8_drop 1 = .ok (.invokestatic 76, 3) := by decide +kernel
theorem dX8_drop_4 : decode cX8_drop 4 = .ok (.ifCond .ne 5, 3) := by decide +kernel
theorem dX8_drop_7 : decode cX8_drop 7 = .ok (.iconst (-1), 1) := by decide +kernel
theorem dX8_drop_8 : decode cX8_drop 8 = .ok (.ireturn, 1) := by decide +kernel
theorem dX8_drop_9 : decode cX8_drop 9 = .ok (.iload_n 2, 1) := by decide +kernel
theorem dX8_drop_10 : decode cX8_drop 10 = .ok (.invokestatic 80, 3) := by decide +kernel
theorem dX8_drop_13 : decode cX8_drop 13 = .ok (.ifCond .ne 6, 3) := by decide +kernel
theorem dX8_drop_16 : decode cX8_drop 16 = .ok (.bipush (-2), 2) := by decide +kernel
theorem dX8_drop_18 : decode cX8_drop 18 = .ok (.ireturn, 1) := by decide +kernel
theorem dX8_drop_19 : decode cX8_drop 19 = .ok (.aload_n 0, 1) := by decide +kernel
theorem dX8_drop_20 : decode cX8_drop 20 = .ok (.iload_n 1, 1) := by decide +kernel
theorem dX8_drop_21 : decode cX8_drop 21 = .ok (.iload_n 2, 1) := by decide +kernel
theorem dX8_drop_22 : decode cX8_drop 22 = .ok (.invokevirtual 83, 3) := by decide +kernel
theorem dX8_drop_25 : decode cX8_drop 25 = .ok (.ifCond .ne 6, 3) := by decide +kernel
theorem dX8_drop_28 : decode cX8_drop 28 = .ok (.bipush (-5), 2) := by decide +kernel
theorem dX8_drop_30 : decode cX8_drop 30 = .ok (.ireturn, 1) := by decide +kernel
theorem dX8_drop_31 : decode cX8_drop 31 = .ok (.aload_n 0, 1) := by decide +kernel
theorem dX8_drop_32 : decode cX8_drop 32 = .ok (.invokevirtual 60, 3) := by decide +kernel
theorem dX8_drop_35 : decode cX8_drop 35 = .ok (.aload_n 0, 1) := by decide +kernel
theorem dX8_drop_36 : decode cX8_drop 36 = .ok (.getfield 7, 3) := by decide +kernel
theorem dX8_drop_39 : decode cX8_drop 39 = .ok (.iconst 0, 1) := by decide +kernel
theorem dX8_drop_40 : decode cX8_drop 40 = .ok (.iload_n 1, 1) := by decide +kernel
theorem dX8_drop_41 : decode cX8_drop 41 = .ok (.iadd, 1) := by decide +kernel
theorem dX8_drop_42 : decode cX8_drop 42 = .ok (.dup2, 1) := by decide +kernel
theorem dX8_drop_43 : decode cX8_drop 43 = .ok (.iaload, 1) := by decide +kernel
theorem dX8_drop_44 : decode cX8_drop 44 = .ok (.iconst 1, 1) := by decide +kernel
theorem dX8_drop_45 : decode cX8_drop 45 = .ok (.iload_n 2, 1) := by decide +kernel
theorem dX8_drop_46 : decode cX8_drop 46 = .ok (.ishl, 1) := by decide +kernel
theorem dX8_drop_47 : decode cX8_drop 47 = .ok (.isub, 1) := by decide +kernel
theorem dX8_drop_48 : decode cX8_drop 48 = .ok (.iastore, 1) := by decide +kernel
theorem dX8_drop_49 : decode cX8_drop 49 = .ok (.aload_n 0, 1) := by decide +kernel
theorem dX8_drop_50 : decode cX8_drop 50 = .ok (.getfield 7, 3) := by decide +kernel
theorem dX8_drop_53 : decode cX8_drop 53 = .ok (.bipush 38, 2) := by decide +kernel
theorem dX8_drop_55 : decode cX8_drop 55 = .ok (.dup2, 1) := by decide +kernel
theorem dX8_drop_56 : decode cX8_drop 56 = .ok (.iaload, 1) := by decide +kernel
theorem dX8_drop_57 : decode cX8_drop 57 = .ok (.iconst 1, 1) := by decide +kernel
theorem dX8_drop_58 : decode cX8_drop 58 = .ok (.iadd, 1) := by decide +kernel
theorem dX8_drop_59 : decode cX8_drop 59 = .ok (.iastore, 1) := by decide +kernel
theorem dX8_drop_60 : decode cX8_drop 60 = .ok (.aload_n 0, 1) := by decide +kernel
theorem dX8_drop_61 : decode cX8_drop 61 = .ok (.aload_n 0, 1) := by decide +kernel
theorem dX8_drop_62 : decode cX8_drop 62 = .ok (.getfield 7, 3) := by decide +kernel
theorem dX8_drop_65 : decode cX8_drop 65 = .ok (.bipush 38, 2) := by decide +kernel
theorem dX8_drop_67 : decode cX8_drop 67 = .ok (.iaload, 1) := by decide +kernel
theorem dX8_drop_68 : decode cX8_drop 68 = .ok (.invokevirtual 67, 3) := by decide +kernel
theorem dX8_drop_71 : decode cX8_drop 71 = .ok (.ireturn, 1) := by decide +kernel
theorem dX8_pick_0 : decode cX8_pick 0 = .ok (.iload_n 1, 1) := by decide +kernel
theorem dX8_pick_1 : decode cX8_pick 1 = .ok (.invokestatic 76, 3) := by decide +kernel
theorem dX8_pick_4 : decode cX8_pick 4 = .ok (.ifCond .ne 5, 3) := by decide +kernel
theorem dX8_pick_7 : decode cX8_pick 7 = .ok (.iconst (-1), 1) := by decide +kernel
theorem dX8_pick_8 : decode cX8_pick 8 = .ok (.ireturn, 1) := by decide +kernel
theorem dX8_pick_9 : decode cX8_pick 9 = .ok (.iload_n 2, 1) := by decide +kernel
theorem dX8_pick_10 : decode cX8_pick 10 = .ok (.invokestatic 80, 3) := by decide +kernel
theorem dX8_pick_13 : decode cX8_pick 13 = .ok (.ifCond .ne 6, 3) := by decide +kernel
theorem dX8_pick_16 : decode cX8_pick 16 = .ok (.bipush (-2), 2) := by decide +kernel
theorem dX8_pick_18 : decode cX8_pick 18 = .ok (.ireturn, 1) := by decide +kernel
theorem dX8_pick_19 : decode cX8_pick 19 = .ok (.aload_n 0, 1) := by decide +kernel
theorem dX8_pick_20 : decode cX8_pick 20 = .ok (.getfield 7, 3) := by decide +kernel
theorem dX8_pick_23 : decode cX8_pick 23 = .ok (.bipush 38, 2) := by decide +kernel
theorem dX8_pick_25 : decode cX8_pick 25 = .ok (.iaload, 1) := by decide +kernel
theorem dX8_pick_26 : decode cX8_pick 26 = .ok (.ifCond .eq 12, 3) := by decide +kernel
theorem dX8_pick_29 : decode cX8_pick 29 = .ok (.aload_n 0, 1) := by decide +kernel
theorem dX8_pick_30 : decode cX8_pick 30 = .ok (.iload_n 1, 1) := by decide +kernel
theorem dX8_pick_31 : decode cX8_pick 31 = .ok (.iload_n 2, 1) := by decide +kernel
theorem dX8_pick_32 : decode cX8_pick 32 = .ok (.invokevirtual 83, 3) := by decide +kernel
theorem dX8_pick_35 : decode cX8_pick 35 = .ok (.ifCond .eq 6, 3) := by decide +kernel
theorem dX8_pick_38 : decode cX8_pick 38 = .ok (.bipush (-5), 2) := by decide +kernel
theorem dX8_pick_40 : decode cX8_pick 40 = .ok (.ireturn, 1) := by decide +kernel
theorem dX8_pick_41 : decode cX8_pick 41 = .ok (.aload_n 0, 1) := by decide +kernel
theorem dX8_pick_42 : decode cX8_pick 42 = .ok (.invokevirtual 60, 3) := by decide +kernel
theorem dX8_pick_45 : decode cX8_pick 45 = .ok (.aload_n 0, 1) := by decide +kernel
theorem dX8_pick_46 : decode cX8_pick 46 = .ok (.getfield 7, 3) := by decide +kernel
theorem dX8_pick_49 : decode cX8_pick 49 = .ok (.iconst 0, 1) := by decide +kernel
theorem dX8_pick_50 : decode cX8_pick 50 = .ok (.iload_n 1, 1) := by decide +kernel
theorem dX8_pick_51 : decode cX8_pick 51 = .ok (.iadd, 1) := by decide +kernel
theorem dX8_pick_52 : decode cX8_pick 52 = .ok (.dup2, 1) := by decide +kernel
theorem dX8_pick_53 : decode cX8_pick 53 = .ok (.iaload, 1) := by decide +kernel
theorem dX8_pick_54 : decode cX8_pick 54 = .ok (.iconst 1, 1) := by decide +kernel
theorem dX8_pick_55 : decode cX8_pick 55 = .ok (.iload_n 2, 1) := by decide +kernel
theorem dX8_pick_56 : decode cX8_pick 56 = .ok (.ishl, 1) := by decide +kernel
theorem dX8_pick_57 : decode cX8_pick 57 = .ok (.iadd, 1) := by decide +kernel
theorem dX8_pick_58 : decode cX8_pick 58 = .ok (.iastore, 1) := by decide +kernel
theorem dX8_pick_59 : decode cX8_pick 59 = .ok (.aload_n 0, 1) := by decide +kernel
theorem dX8_pick_60 : decode cX8_pick 60 = .ok (.getfield 7, 3) := by decide +kernel
theorem dX8_pick_63 : decode cX8_pick 63 = .ok (.bipush 38, 2) := by decide +kernel
theorem dX8_pick_65 : decode cX8_pick 65 = .ok (.dup2, 1) := by decide +kernel
theorem dX8_pick_66 : decode cX8_pick 66 = .ok (.iaload, 1) := by decide +kernel
theorem dX8_pick_67 : decode cX8_pick 67 = .ok (.iconst 1, 1) := by decide +kernel
theorem dX8_pick_68 : decode cX8_pick 68 = .ok (.isub, 1) := by decide +kernel
theorem dX8_pick_69 : decode cX8_pick 69 = .ok (.iastore, 1) := by decide +kernel
theorem dX8_pick_70 : decode cX8_pick 70 = .ok (.aload_n 0, 1) := by decide +kernel
theorem dX8_pick_71 : decode cX8_pick 71 = .ok (.aload_n 0, 1) := by decide +kernel
theorem dX8_pick_72 : decode cX8_pick 72 = .ok (.getfield 7, 3) := by decide +kernel
theorem dX8_pick_75 : decode cX8_pick 75 = .ok (.bipush 38, 2) := by decide +kernel
theorem dX8_pick_77 : decode cX8_pick 77 = .ok (.iaload, 1) := by decide +kernel
theorem dX8_pick_78 : decode cX8_pick 78 = .ok (.invokevirtual 67, 3) := by decide +kernel
theorem dX8_pick_81 : decode cX8_pick 81 = .ok (.ireturn, 1) := by decide +kernel
theorem dX8_of_0 : decode cX8_of 0 = .ok (.iload_n 1, 1) := by decide +kernel
theorem dX8_of_1 : decode cX8_of 1 = .ok (.invokestatic 76, 3) := by decide +kernel
theorem dX8_of_4 : decode cX8_of 4 = .ok (.ifCond .ne 5, 3) := by decide +kernel
theorem dX8_of_7 : decode cX8_of 7 = .ok (.iconst (-1), 1) := by decide +kernel
theorem dX8_of_8 : decode cX8_of 8 = .ok (.ireturn, 1) := by decide +kernel
theorem dX8_of_9 : decode cX8_of 9 = .ok (.iload_n 2, 1) := by decide +kernel
theorem dX8_of_10 : decode cX8_of 10 = .ok (.tableswitch 97 0 5 #[38, 47, 59, 68, 77, 87], 38) := by decide +kernel
theorem dX8_of_48 : decode cX8_of 48 = .ok (.aload_n 0, 1) := by decide +kernel
theorem dX8_of_49 : decode cX8_of 49 = .ok (.getfield 7, 3) := by decide +kernel
theorem dX8_of_52 : decode cX8_of 52 = .ok (.iconst 0, 1) := by decide +kernel
theorem dX8_of_53 : decode cX8_of 53 = .ok (.iload_n 1, 1) := by decide +kernel
theorem dX8_of_54 : decode cX8_of 54 = .ok (.iadd, 1) := by decide +kernel
theorem dX8_of_55 : decode cX8_of 55 = .ok (.iaload, 1) := by decide +kernel
theorem dX8_of_56 : decode cX8_of 56 = .ok (.ireturn, 1) := by decide +kernel
theorem dX8_of_57 : decode cX8_of 57 = .ok (.aload_n 0, 1) := by decide +kernel
theorem dX8_of_58 : decode cX8_of 58 = .ok (.getfield 7, 3) := by decide +kernel
theorem dX8_of_61 : decode cX8_of 61 = .ok (.iconst 0, 1) := by decide +kernel
theorem dX8_of_62 : decode cX8_of 62 = .ok (.iload_n 1, 1) := by decide +kernel
theorem dX8_of_63 : decode cX8_of 63 = .ok (.iadd, 1) := by decide +kernel
theorem dX8_of_64 : decode cX8_of 64 = .ok (.iaload, 1) := by decide +kernel
theorem dX8_of_65 : decode cX8_of 65 = .ok (.invokestatic 50, 3) := by decide +kernel
theorem dX8_of_68 : decode cX8_of 68 = .ok (.ireturn, 1) := by decide +kernel
theorem dX8_of_69 : decode cX8_of 69 = .ok (.aload_n 0, 1) := by decide +kernel
theorem dX8_of_70 : decode cX8_of 70 = .ok (.getfield 7, 3) := by decide +kernel
theorem dX8_of_73 : decode cX8_of 73 = .ok (.iconst 4, 1) := by decide +kernel
theorem dX8_of_74 : decode cX8_of 74 = .ok (.iload_n 1, 1) := by decide +kernel
theorem dX8_of_75 : decode cX8_of 75 = .ok (.iadd, 1) := by decide +kernel
theorem dX8_of_76 : decode cX8_of 76 = .ok (.iaload, 1) := by decide +kernel
theorem dX8_of_77 : decode cX8_of 77 = .ok (.ireturn, 1) := by decide +kernel
theorem dX8_of_78 : decode cX8_of 78 = .ok (.aload_n 0, 1) := by decide +kernel
theorem dX8_of_79 : decode cX8_of 79 = .ok (.getfield 7, 3) := by decide +kernel
theorem dX8_of_82 : decode cX8_of 82 = .ok (.iconst 2, 1) := by decide +kernel
theorem dX8_of_83 : decode cX8_of 83 = .ok (.iload_n 1, 1) := by decide +kernel
theorem dX8_of_84 : decode cX8_of 84 = .ok (.iadd, 1) := by decide +kernel
theorem dX8_of_85 : decode cX8_of 85 = .ok (.iaload, 1) := by decide +kernel
theorem dX8_of_86 : decode cX8_of 86 = .ok (.ireturn, 1) := by decide +kernel
theorem dX8_of_87 : decode cX8_of 87 = .ok (.aload_n 0, 1) := by decide +kernel
theorem dX8_of_88 : decode cX8_of 88 = .ok (.getfield 7, 3) := by decide +kernel
theorem dX8_of_91 : decode cX8_of 91 = .ok (.bipush 40, 2) := by decide +kernel
theorem dX8_of_93 : decode cX8_of 93 = .ok (.iload_n 1, 1) := by decide +kernel
theorem dX8_of_94 : decode cX8_of 94 = .ok (.iadd, 1) := by decide +kernel
theorem dX8_of_95 : decode cX8_of 95 = .ok (.iaload, 1) := by decide +kernel
theorem dX8_of_96 : decode cX8_of 96 = .ok (.ireturn, 1) := by decide +kernel
theorem dX8_of_97 : decode cX8_of 97 = .ok (.aload_n 0, 1) := by decide +kernel
theorem dX8_of_98 : decode cX8_of 98 = .ok (.getfield 7, 3) := by decide +kernel
theorem dX8_of_101 : decode cX8_of 101 = .ok (.bipush 42, 2) := by decide +kernel
theorem dX8_of_103 : decode cX8_of 103 = .ok (.iload_n 1, 1) := by decide +kernel
theorem dX8_of_104 : decode cX8_of 104 = .ok (.iadd, 1) := by decide +kernel
theorem dX8_of_105 : decode cX8_of 105 = .ok (.iaload, 1) := by decide +kernel
theorem dX8_of_106 : decode cX8_of 106 = .ok (.ireturn, 1) := by decide +kernel
theorem dX8_of_107 : decode cX8_of 107 = .ok (.bipush (-2), 2) := by decide +kernel
theorem dX8_of_109 : decode cX8_of 109 = .ok (.ireturn, 1) := by decide +kernel
theorem dX8_thrown_0 : decode cX8_thrown 0 = .ok (.iload_n 1, 1) := by decide +kernel
theorem dX8_thrown_1 : decode cX8_thrown 1 = .ok (.invokestatic 76, 3) := by decide +kernel
theorem dX8_thrown_4 : decode cX8_thrown 4 = .ok (.ifCond .eq 23, 3) := by decide +kernel
theorem dX8_thrown_7 : decode cX8_thrown 7 = .ok (.iload_n 2, 1) := by decide +kernel
theorem dX8_thrown_8 : decode cX8_thrown 8 = .ok (.i2l, 1) := by decide +kernel
theorem dX8_thrown_9 : decode cX8_thrown 9 = .ok (.lconst 0, 1) := by decide +kernel
theorem dX8_thrown_10 : decode cX8_thrown 10 = .ok (.aload_n 0, 1) := by decide +kernel
theorem dX8_thrown_11 : decode cX8_thrown 11 = .ok (.getfield 7, 3) := by decide +kernel
theorem dX8_thrown_14 : decode cX8_thrown 14 = .ok (.iconst 4, 1) := by decide +kernel
theorem dX8_thrown_15 : decode cX8_thrown 15 = .ok (.iload_n 1, 1) := by decide +kernel
theorem dX8_thrown_16 : decode cX8_thrown 16 = .ok (.iadd, 1) := by decide +kernel
theorem dX8_thrown_17 : decode cX8_thrown 17 = .ok (.iaload, 1) := by decide +kernel
theorem dX8_thrown_18 : decode cX8_thrown 18 = .ok (.i2l, 1) := by decide +kernel
theorem dX8_thrown_19 : decode cX8_thrown 19 = .ok (.lconst 1, 1) := by decide +kernel
theorem dX8_thrown_20 : decode cX8_thrown 20 = .ok (.lsub, 1) := by decide +kernel
theorem dX8_thrown_21 : decode cX8_thrown 21 = .ok (.invokestatic 44, 3) := by decide +kernel
theorem dX8_thrown_24 : decode cX8_thrown 24 = .ok (.ifCond .ne 5, 3) := by decide +kernel
theorem dX8_thrown_27 : decode cX8_thrown 27 = .ok (.iconst (-1), 1) := by decide +kernel
theorem dX8_thrown_28 : decode cX8_thrown 28 = .ok (.ireturn, 1) := by decide +kernel
theorem dX8_thrown_29 : decode cX8_thrown 29 = .ok (.bipush 8, 2) := by decide +kernel
theorem dX8_thrown_31 : decode cX8_thrown 31 = .ok (.iload_n 1, 1) := by decide +kernel
theorem dX8_thrown_32 : decode cX8_thrown 32 = .ok (.imul, 1) := by decide +kernel
theorem dX8_thrown_33 : decode cX8_thrown 33 = .ok (.iload_n 2, 1) := by decide +kernel
theorem dX8_thrown_34 : decode cX8_thrown 34 = .ok (.iadd, 1) := by decide +kernel
theorem dX8_thrown_35 : decode cX8_thrown 35 = .ok (.istore 4, 2) := by decide +kernel
theorem dX8_thrown_37 : decode cX8_thrown 37 = .ok (.iload_n 3, 1) := by decide +kernel
theorem dX8_thrown_38 : decode cX8_thrown 38 = .ok (.ifCond .ne 16, 3) := by decide +kernel
theorem dX8_thrown_41 : decode cX8_thrown 41 = .ok (.aload_n 0, 1) := by decide +kernel
theorem dX8_thrown_42 : decode cX8_thrown 42 = .ok (.getfield 7, 3) := by decide +kernel
theorem dX8_thrown_45 : decode cX8_thrown 45 = .ok (.bipush 6, 2) := by decide +kernel
theorem dX8_thrown_47 : decode cX8_thrown 47 = .ok (.iload 4, 2) := by decide +kernel
theorem dX8_thrown_49 : decode cX8_thrown 49 = .ok (.iadd, 1) := by decide +kernel
theorem dX8_thrown_50 : decode cX8_thrown 50 = .ok (.iaload, 1) := by decide +kernel
theorem dX8_thrown_51 : decode cX8_thrown 51 = .ok (.goto 23, 3) := by decide +kernel
theorem dX8_thrown_54 : decode cX8_thrown 54 = .ok (.iload_n 3, 1) := by decide +kernel
theorem dX8_thrown_55 : decode cX8_thrown 55 = .ok (.iconst 1, 1) := by decide +kernel
theorem dX8_thrown_56 : decode cX8_thrown 56 = .ok (.if_icmp .ne 16, 3) := by decide +kernel
theorem dX8_thrown_59 : decode cX8_thrown 59 = .ok (.aload_n 0, 1) := by decide +kernel
theorem dX8_thrown_60 : decode cX8_thrown 60 = .ok (.getfield 7, 3) := by decide +kernel
theorem dX8_thrown_63 : decode cX8_thrown 63 = .ok (.bipush 22, 2) := by decide +kernel
theorem dX8_thrown_65 : decode cX8_thrown 65 = .ok (.iload 4, 2) := by decide +kernel
theorem dX8_thrown_67 : decode cX8_thrown 67 = .ok (.iadd, 1) := by decide +kernel
theorem dX8_thrown_68 : decode cX8_thrown 68 = .ok (.iaload, 1) := by decide +kernel
theorem dX8_thrown_69 : decode cX8_thrown 69 = .ok (.goto 5, 3) := by decide +kernel
theorem dX8_thrown_72 : decode cX8_thrown 72 = .ok (.bipush (-2), 2) := by decide +kernel
theorem dX8_thrown_74 : decode cX8_thrown 74 = .ok (.ireturn, 1) := by decide +kernel
theorem dX8_count_0 : decode cX8_count 0 = .ok (.iload_n 1, 1) := by decide +kernel
theorem dX8_count_1 : decode cX8_count 1 = .ok (.tableswitch 90 0 6 #[43, 51, 59, 64, 72, 80, 85], 43) := by decide +kernel
theorem dX8_count_44 : decode cX8_count 44 = .ok (.aload_n 0, 1) := by decide +kernel
theorem dX8_count_45 : decode cX8_count 45 = .ok (.getfield 7, 3) := by decide +kernel
theorem dX8_count_48 : decode cX8_count 48 = .ok (.bipush 39, 2) := by decide +kernel
theorem dX8_count_50 : decode cX8_count 50 = .ok (.iaload, 1) := by decide +kernel
theorem dX8_count_51 : decode cX8_count 51 = .ok (.ireturn, 1) := by decide +kernel
theorem dX8_count_52 : decode cX8_count 52 = .ok (.aload_n 0, 1) := by decide +kernel
theorem dX8_count_53 : decode cX8_count 53 = .ok (.getfield 7, 3) := by decide +kernel
theorem dX8_count_56 : decode cX8_count 56 = .ok (.bipush 38, 2) := by decide +kernel
theorem dX8_count_58 : decode cX8_count 58 = .ok (.iaload, 1) := by decide +kernel
theorem dX8_count_59 : decode cX8_count 59 = .ok (.ireturn, 1) := by decide +kernel
theorem dX8_count_60 : decode cX8_count 60 = .ok (.aload_n 0, 1) := by decide +kernel
theorem dX8_count_61 : decode cX8_count 61 = .ok (.invokevirtual 63, 3) := by decide +kernel
theorem dX8_count_64 : decode cX8_count 64 = .ok (.ireturn, 1) := by decide +kernel
theorem dX8_count_65 : decode cX8_count 65 = .ok (.aload_n 0, 1) := by decide +kernel
theorem dX8_count_66 : decode cX8_count 66 = .ok (.getfield 7, 3) := by decide +kernel
theorem dX8_count_69 : decode cX8_count 69 = .ok (.bipush 44, 2) := by decide +kernel
theorem dX8_count_71 : decode cX8_count 71 = .ok (.iaload, 1) := by decide +kernel
theorem dX8_count_72 : decode cX8_count 72 = .ok (.ireturn, 1) := by decide +kernel
theorem dX8_count_73 : decode cX8_count 73 = .ok (.aload_n 0, 1) := by decide +kernel
theorem dX8_count_74 : decode cX8_count 74 = .ok (.getfield 7, 3) := by decide +kernel
theorem dX8_count_77 : decode cX8_count 77 = .ok (.bipush 45, 2) := by decide +kernel
theorem dX8_count_79 : decode cX8_count 79 = .ok (.iaload, 1) := by decide +kernel
theorem dX8_count_80 : decode cX8_count 80 = .ok (.ireturn, 1) := by decide +kernel
theorem dX8_count_81 : decode cX8_count 81 = .ok (.aload_n 0, 1) := by decide +kernel
theorem dX8_count_82 : decode cX8_count 82 = .ok (.getfield 87, 3) := by decide +kernel
theorem dX8_count_85 : decode cX8_count 85 = .ok (.ireturn, 1) := by decide +kernel
theorem dX8_count_86 : decode cX8_count 86 = .ok (.aload_n 0, 1) := by decide +kernel
theorem dX8_count_87 : decode cX8_count 87 = .ok (.getfield 40, 3) := by decide +kernel
theorem dX8_count_90 : decode cX8_count 90 = .ok (.ireturn, 1) := by decide +kernel
theorem dX8_count_91 : decode cX8_count 91 = .ok (.bipush (-2), 2) := by decide +kernel
theorem dX8_count_93 : decode cX8_count 93 = .ok (.ireturn, 1) := by decide +kernel
theorem dX8_firstDrop_0 : decode cX8_firstDrop 0 = .ok (.aload_n 0, 1) := by decide +kernel
theorem dX8_firstDrop_1 : decode cX8_firstDrop 1 = .ok (.invokevirtual 60, 3) := by decide +kernel
theorem dX8_firstDrop_4 : decode cX8_firstDrop 4 = .ok (.iconst 0, 1) := by decide +kernel
theorem dX8_firstDrop_5 : decode cX8_firstDrop 5 = .ok (.istore_n 1, 1) := by decide +kernel
theorem dX8_firstDrop_6 : decode cX8_firstDrop 6 = .ok (.iload_n 1, 1) := by decide +kernel
theorem dX8_firstDrop_7 : decode cX8_firstDrop 7 = .ok (.sipush 1000, 3) := by decide +kernel
theorem dX8_firstDrop_10 : decode cX8_firstDrop 10 = .ok (.if_icmp .ge 30, 3) := by decide +kernel
theorem dX8_firstDrop_13 : decode cX8_firstDrop 13 = .ok (.aload_n 0, 1) := by decide +kernel
theorem dX8_firstDrop_14 : decode cX8_firstDrop 14 = .ok (.getfield 7, 3) := by decide +kernel
theorem dX8_firstDrop_17 : decode cX8_firstDrop 17 = .ok (.bipush 38, 2) := by decide +kernel
theorem dX8_firstDrop_19 : decode cX8_firstDrop 19 = .ok (.iaload, 1) := by decide +kernel
theorem dX8_firstDrop_20 : decode cX8_firstDrop 20 = .ok (.aload_n 0, 1) := by decide +kernel
theorem dX8_firstDrop_21 : decode cX8_firstDrop 21 = .ok (.getfield 13, 3) := by decide +kernel
theorem dX8_firstDrop_24 : decode cX8_firstDrop 24 = .ok (.bipush 38, 2) := by decide +kernel
theorem dX8_firstDrop_26 : decode cX8_firstDrop 26 = .ok (.iaload, 1) := by decide +kernel
theorem dX8_firstDrop_27 : decode cX8_firstDrop 27 = .ok (.if_icmp .ne 13, 3) := by decide +kernel
theorem dX8_firstDrop_30 : decode cX8_firstDrop 30 = .ok (.aload_n 0, 1) := by decide +kernel
theorem dX8_firstDrop_31 : decode cX8_firstDrop 31 = .ok (.invokevirtual 73, 3) := by decide +kernel
theorem dX8_firstDrop_34 : decode cX8_firstDrop 34 = .ok (.iinc 1 1, 3) := by decide +kernel
theorem dX8_firstDrop_37 : decode cX8_firstDrop 37 = .ok (.goto (-31), 3) := by decide +kernel
theorem dX8_firstDrop_40 : decode cX8_firstDrop 40 = .ok (.aload_n 0, 1) := by decide +kernel
theorem dX8_firstDrop_41 : decode cX8_firstDrop 41 = .ok (.getfield 7, 3) := by decide +kernel
theorem dX8_firstDrop_44 : decode cX8_firstDrop 44 = .ok (.bipush 38, 2) := by decide +kernel
theorem dX8_firstDrop_46 : decode cX8_firstDrop 46 = .ok (.iaload, 1) := by decide +kernel
theorem dX8_firstDrop_47 : decode cX8_firstDrop 47 = .ok (.aload_n 0, 1) := by decide +kernel
theorem dX8_firstDrop_48 : decode cX8_firstDrop 48 = .ok (.getfield 13, 3) := by decide +kernel
theorem dX8_firstDrop_51 : decode cX8_firstDrop 51 = .ok (.bipush 38, 2) := by decide +kernel
theorem dX8_firstDrop_53 : decode cX8_firstDrop 53 = .ok (.iaload, 1) := by decide +kernel
theorem dX8_firstDrop_54 : decode cX8_firstDrop 54 = .ok (.if_icmp .le 7, 3) := by decide +kernel
theorem dX8_firstDrop_57 : decode cX8_firstDrop 57 = .ok (.iconst 1, 1) := by decide +kernel
theorem dX8_firstDrop_58 : decode cX8_firstDrop 58 = .ok (.goto 4, 3) := by decide +kernel
theorem dX8_firstDrop_61 : decode cX8_firstDrop 61 = .ok (.iconst 0, 1) := by decide +kernel
theorem dX8_firstDrop_62 : decode cX8_firstDrop 62 = .ok (.istore_n 2, 1) := by decide +kernel
theorem dX8_firstDrop_63 : decode cX8_firstDrop 63 = .ok (.aload_n 0, 1) := by decide +kernel
theorem dX8_firstDrop_64 : decode cX8_firstDrop 64 = .ok (.invokevirtual 90, 3) := by decide +kernel
theorem dX8_firstDrop_67 : decode cX8_firstDrop 67 = .ok (.iload_n 2, 1) := by decide +kernel
theorem dX8_firstDrop_68 : decode cX8_firstDrop 68 = .ok (.ifCond .eq 9, 3) := by decide +kernel
theorem dX8_firstDrop_71 : decode cX8_firstDrop 71 = .ok (.iload_n 1, 1) := by decide +kernel
theorem dX8_firstDrop_72 : decode cX8_firstDrop 72 = .ok (.iconst 1, 1) := by decide +kernel
theorem dX8_firstDrop_73 : decode cX8_firstDrop 73 = .ok (.isub, 1) := by decide +kernel
theorem dX8_firstDrop_74 : decode cX8_firstDrop 74 = .ok (.goto 5, 3) := by decide +kernel
theorem dX8_firstDrop_77 : decode cX8_firstDrop 77 = .ok (.bipush (-6), 2) := by decide +kernel
theorem dX8_firstDrop_79 : decode cX8_firstDrop 79 = .ok (.ireturn, 1) := by decide +kernel
theorem dX8_isAsKept_0 : decode cX8_isAsKept 0 = .ok (.iconst 1, 1) := by decide +kernel
theorem dX8_isAsKept_1 : decode cX8_isAsKept 1 = .ok (.istore_n 1, 1) := by decide +kernel
theorem dX8_isAsKept_2 : decode cX8_isAsKept 2 = .ok (.iconst 0, 1) := by decide +kernel
theorem dX8_isAsKept_3 : decode cX8_isAsKept 3 = .ok (.istore_n 2, 1) := by decide +kernel
theorem dX8_isAsKept_4 : decode cX8_isAsKept 4 = .ok (.iload_n 2, 1) := by decide +kernel
theorem dX8_isAsKept_5 : decode cX8_isAsKept 5 = .ok (.iconst 4, 1) := by decide +kernel
theorem dX8_isAsKept_6 : decode cX8_isAsKept 6 = .ok (.if_icmp .ge 34, 3) := by decide +kernel
theorem dX8_isAsKept_9 : decode cX8_isAsKept 9 = .ok (.iload_n 1, 1) := by decide +kernel
theorem dX8_isAsKept_10 : decode cX8_isAsKept 10 = .ok (.ifCond .eq 22, 3) := by decide +kernel
theorem dX8_isAsKept_13 : decode cX8_isAsKept 13 = .ok (.aload_n 0, 1) := by decide +kernel
theorem dX8_isAsKept_14 : decode cX8_isAsKept 14 = .ok (.getfield 7, 3) := by decide +kernel
theorem dX8_isAsKept_17 : decode cX8_isAsKept 17 = .ok (.iload_n 2, 1) := by decide +kernel
theorem dX8_isAsKept_18 : decode cX8_isAsKept 18 = .ok (.iaload, 1) := by decide +kernel
theorem dX8_isAsKept_19 : decode cX8_isAsKept 19 = .ok (.aload_n 0, 1) := by decide +kernel
theorem dX8_isAsKept_20 : decode cX8_isAsKept 20 = .ok (.getfield 13, 3) := by decide +kernel
theorem dX8_isAsKept_23 : decode cX8_isAsKept 23 = .ok (.iload_n 2, 1) := by decide +kernel
theorem dX8_isAsKept_24 : decode cX8_isAsKept 24 = .ok (.iaload, 1) := by decide +kernel
theorem dX8_isAsKept_25 : decode cX8_isAsKept 25 = .ok (.if_icmp .ne 7, 3) := by decide +kernel
theorem dX8_isAsKept_28 : decode cX8_isAsKept 28 = .ok (.iconst 1, 1) := by decide +kernel
theorem dX8_isAsKept_29 : decode cX8_isAsKept 29 = .ok (.goto 4, 3) := by decide +kernel
theorem dX8_isAsKept_32 : decode cX8_isAsKept 32 = .ok (.iconst 0, 1) := by decide +kernel
theorem dX8_isAsKept_33 : decode cX8_isAsKept 33 = .ok (.istore_n 1, 1) := by decide +kernel
theorem dX8_isAsKept_34 : decode cX8_isAsKept 34 = .ok (.iinc 2 1, 3) := by decide +kernel
theorem dX8_isAsKept_37 : decode cX8_isAsKept 37 = .ok (.goto (-33), 3) := by decide +kernel
theorem dX8_isAsKept_40 : decode cX8_isAsKept 40 = .ok (.iload_n 1, 1) := by decide +kernel
theorem dX8_isAsKept_41 : decode cX8_isAsKept 41 = .ok (.ireturn, 1) := by decide +kernel
