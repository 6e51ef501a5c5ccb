theorem dX6_searchFrom_0 : decode cX6_searchFrom 0 = .ok (.aload_n 0, 1) := by decide +kernel
theorem dX6_searchFrom_1 : decode cX6_searchFrom 1 = .ok (.getfield 9, 3) := by decide +kernel
theorem dX6_searchFrom_4 : decode cX6_searchFrom 4 = .ok (.iconst (-1), 1) := by decide +kernel
theorem dX6_searchFrom_5 : decode cX6_searchFrom 5 = .ok (.invokestatic 24, 3) := by decide +kernel
theorem dX6_searchFrom_8 : decode cX6_searchFrom 8 = .ok (.aload_n 0, 1) := by decide +kernel
theorem dX6_searchFrom_9 : decode cX6_searchFrom 9 = .ok (.iconst 0, 1) := by decide +kernel
theorem dX6_searchFrom_10 : decode cX6_searchFrom 10 = .ok (.putfield 30, 3) := by decide +kernel
theorem dX6_searchFrom_13 : decode cX6_searchFrom 13 = .ok (.aload_n 0, 1) := by decide +kernel
theorem dX6_searchFrom_14 : decode cX6_searchFrom 14 = .ok (.iload_n 1, 1) := by decide +kernel
theorem dX6_searchFrom_15 : decode cX6_searchFrom 15 = .ok (.iconst 0, 1) := by decide +kernel
theorem dX6_searchFrom_16 : decode cX6_searchFrom 16 = .ok (.iconst 0, 1) := by decide +kernel
theorem dX6_searchFrom_17 : decode cX6_searchFrom 17 = .ok (.iconst 0, 1) := by decide +kernel
theorem dX6_searchFrom_18 : decode cX6_searchFrom 18 = .ok (.invokevirtual 34, 3) := by decide +kernel
theorem dX6_searchFrom_21 : decode cX6_searchFrom 21 = .ok (.iconst 0, 1) := by decide +kernel
theorem dX6_searchFrom_22 : decode cX6_searchFrom 22 = .ok (.istore_n 2, 1) := by decide +kernel
theorem dX6_searchFrom_23 : decode cX6_searchFrom 23 = .ok (.iload_n 2, 1) := by decide +kernel
theorem dX6_searchFrom_24 : decode cX6_searchFrom 24 = .ok (.aload_n 0, 1) := by decide +kernel
theorem dX6_searchFrom_25 : decode cX6_searchFrom 25 = .ok (.getfield 30, 3) := by decide +kernel
theorem dX6_searchFrom_28 : decode cX6_searchFrom 28 = .ok (.if_icmp .ge 28, 3) := by decide +kernel
theorem dX6_searchFrom_31 : decode cX6_searchFrom 31 = .ok (.iload_n 2, 1) := by decide +kernel
theorem dX6_searchFrom_32 : decode cX6_searchFrom 32 = .ok (.sipush 256, 3) := by decide +kernel
theorem dX6_searchFrom_35 : decode cX6_searchFrom 35 = .ok (.if_icmp .ge 21, 3) := by decide +kernel
theorem dX6_searchFrom_38 : decode cX6_searchFrom 38 = .ok (.aload_n 0, 1) := by decide +kernel
theorem dX6_searchFrom_39 : decode cX6_searchFrom 39 = .ok (.aload_n 0, 1) := by decide +kernel
theorem dX6_searchFrom_40 : decode cX6_searchFrom 40 = .ok (.getfield 21, 3) := by decide +kernel
theorem dX6_searchFrom_43 : decode cX6_searchFrom 43 = .ok (.iload_n 2, 1) := by decide +kernel
theorem dX6_searchFrom_44 : decode cX6_searchFrom 44 = .ok (.invokestatic 38, 3) := by decide +kernel
theorem dX6_searchFrom_47 : decode cX6_searchFrom 47 = .ok (.invokevirtual 42, 3) := by decide +kernel
theorem dX6_searchFrom_50 : decode cX6_searchFrom 50 = .ok (.iinc 2 1, 3) := by decide +kernel
theorem dX6_searchFrom_53 : decode cX6_searchFrom 53 = .ok (.goto (-30), 3) := by decide +kernel
theorem dX6_searchFrom_56 : decode cX6_searchFrom 56 = .ok (.return_, 1) := by decide +kernel
theorem dX6_goOnFrom_0 : decode cX6_goOnFrom 0 = .ok (.iload_n 1, 1) := by decide +kernel
theorem dX6_goOnFrom_1 : decode cX6_goOnFrom 1 = .ok (.iconst 0, 1) := by decide +kernel
theorem dX6_goOnFrom_2 : decode cX6_goOnFrom 2 = .ok (.invokestatic 46, 3) := by decide +kernel
theorem dX6_goOnFrom_5 : decode cX6_goOnFrom 5 = .ok (.ifCond .ne 10, 3) := by decide +kernel
theorem dX6_goOnFrom_8 : decode cX6_goOnFrom 8 = .ok (.aload_n 0, 1) := by decide +kernel
theorem dX6_goOnFrom_9 : decode cX6_goOnFrom 9 = .ok (.iload_n 1, 1) := by decide +kernel
theorem dX6_goOnFrom_10 : decode cX6_goOnFrom 10 = .ok (.iconst 0, 1) := by decide +kernel
theorem dX6_goOnFrom_11 : decode cX6_goOnFrom 11 = .ok (.invokevirtual 50, 3) := by decide +kernel
theorem dX6_goOnFrom_14 : decode cX6_goOnFrom 14 = .ok (.return_, 1) := by decide +kernel
theorem dX6_goOnFrom_15 : decode cX6_goOnFrom 15 = .ok (.iconst 1, 1) := by decide +kernel
theorem dX6_goOnFrom_16 : decode cX6_goOnFrom 16 = .ok (.istore_n 2, 1) := by decide +kernel
theorem dX6_goOnFrom_17 : decode cX6_goOnFrom 17 = .ok (.iload_n 2, 1) := by decide +kernel
theorem dX6_goOnFrom_18 : decode cX6_goOnFrom 18 = .ok (.bipush 8, 2) := by decide +kernel
theorem dX6_goOnFrom_20 : decode cX6_goOnFrom 20 = .ok (.if_icmp .ge 23, 3) := by decide +kernel
theorem dX6_goOnFrom_23 : decode cX6_goOnFrom 23 = .ok (.iload_n 1, 1) := by decide +kernel
theorem dX6_goOnFrom_24 : decode cX6_goOnFrom 24 = .ok (.iload_n 2, 1) := by decide +kernel
theorem dX6_goOnFrom_25 : decode cX6_goOnFrom 25 = .ok (.invokestatic 46, 3) := by decide +kernel
theorem dX6_goOnFrom_28 : decode cX6_goOnFrom 28 = .ok (.ifCond .ne 9, 3) := by decide +kernel
theorem dX6_goOnFrom_31 : decode cX6_goOnFrom 31 = .ok (.aload_n 0, 1) := by decide +kernel
theorem dX6_goOnFrom_32 : decode cX6_goOnFrom 32 = .ok (.iload_n 1, 1) := by decide +kernel
theorem dX6_goOnFrom_33 : decode cX6_goOnFrom 33 = .ok (.iload_n 2, 1) := by decide +kernel
theorem dX6_goOnFrom_34 : decode cX6_goOnFrom 34 = .ok (.invokevirtual 50, 3) := by decide +kernel
theorem dX6_goOnFrom_37 : decode cX6_goOnFrom 37 = .ok (.iinc 2 1, 3) := by decide +kernel
theorem dX6_goOnFrom_40 : decode cX6_goOnFrom 40 = .ok (.goto (-23), 3) := by decide +kernel
theorem dX6_goOnFrom_43 : decode cX6_goOnFrom 43 = .ok (.return_, 1) := by decide +kernel
theorem dX6_makeThrow_0 : decode cX6_makeThrow 0 = .ok (.iload_n 1, 1) := by decide +kernel
theorem dX6_makeThrow_1 : decode cX6_makeThrow 1 = .ok (.iconst 1, 1) := by decide +kernel
theorem dX6_makeThrow_2 : decode cX6_makeThrow 2 = .ok (.iload_n 2, 1) := by decide +kernel
theorem dX6_makeThrow_3 : decode cX6_makeThrow 3 = .ok (.ishl, 1) := by decide +kernel
theorem dX6_makeThrow_4 : decode cX6_makeThrow 4 = .ok (.ior, 1) := by decide +kernel
theorem dX6_makeThrow_5 : decode cX6_makeThrow 5 = .ok (.iconst 1, 1) := by decide +kernel
theorem dX6_makeThrow_6 : decode cX6_makeThrow 6 = .ok (.ishr, 1) := by decide +kernel
theorem dX6_makeThrow_7 : decode cX6_makeThrow 7 = .ok (.istore_n 3, 1) := by decide +kernel
theorem dX6_makeThrow_8 : decode cX6_makeThrow 8 = .ok (.aload_n 0, 1) := by decide +kernel
theorem dX6_makeThrow_9 : decode cX6_makeThrow 9 = .ok (.iload_n 1, 1) := by decide +kernel
theorem dX6_makeThrow_10 : decode cX6_makeThrow 10 = .ok (.invokevirtual 54, 3) := by decide +kernel
theorem dX6_makeThrow_13 : decode cX6_makeThrow 13 = .ok (.istore 4, 2) := by decide +kernel
theorem dX6_makeThrow_15 : decode cX6_makeThrow 15 = .ok (.aload_n 0, 1) := by decide +kernel
theorem dX6_makeThrow_16 : decode cX6_makeThrow 16 = .ok (.iload_n 3, 1) := by decide +kernel
theorem dX6_makeThrow_17 : decode cX6_makeThrow 17 = .ok (.iload 4, 2) := by decide +kernel
theorem dX6_makeThrow_19 : decode cX6_makeThrow 19 = .ok (.iconst 1, 1) := by decide +kernel
theorem dX6_makeThrow_20 : decode cX6_makeThrow 20 = .ok (.iadd, 1) := by decide +kernel
theorem dX6_makeThrow_21 : decode cX6_makeThrow 21 = .ok (.iload 4, 2) := by decide +kernel
theorem dX6_makeThrow_23 : decode cX6_makeThrow 23 = .ok (.ifCond .ne 7, 3) := by decide +kernel
theorem dX6_makeThrow_26 : decode cX6_makeThrow 26 = .ok (.iload_n 2, 1) := by decide +kernel
theorem dX6_makeThrow_27 : decode cX6_makeThrow 27 = .ok (.goto 8, 3) := by decide +kernel
theorem dX6_makeThrow_30 : decode cX6_makeThrow 30 = .ok (.aload_n 0, 1) := by decide +kernel
theorem dX6_makeThrow_31 : decode cX6_makeThrow 31 = .ok (.iload_n 1, 1) := by decide +kernel
theorem dX6_makeThrow_32 : decode cX6_makeThrow 32 = .ok (.invokevirtual 58, 3) := by decide +kernel
theorem dX6_makeThrow_35 : decode cX6_makeThrow 35 = .ok (.iload_n 2, 1) := by decide +kernel
theorem dX6_makeThrow_36 : decode cX6_makeThrow 36 = .ok (.invokevirtual 34, 3) := by decide +kernel
theorem dX6_makeThrow_39 : decode cX6_makeThrow 39 = .ok (.return_, 1) := by decide +kernel
theorem dX6_reach_0 : decode cX6_reach 0 = .ok (.aload_n 0, 1) := by decide +kernel
theorem dX6_reach_1 : decode cX6_reach 1 = .ok (.iload_n 1, 1) := by decide +kernel
theorem dX6_reach_2 : decode cX6_reach 2 = .ok (.invokevirtual 54, 3) := by decide +kernel
theorem dX6_reach_5 : decode cX6_reach 5 = .ok (.iconst (-1), 1) := by decide +kernel
theorem dX6_reach_6 : decode cX6_reach 6 = .ok (.if_icmp .eq 4, 3) := by decide +kernel
theorem dX6_reach_9 : decode cX6_reach 9 = .ok (.return_, 1) := by decide +kernel
theorem dX6_reach_10 : decode cX6_reach 10 = .ok (.aload_n 0, 1) := by decide +kernel
theorem dX6_reach_11 : decode cX6_reach 11 = .ok (.getfield 9, 3) := by decide +kernel
theorem dX6_reach_14 : decode cX6_reach 14 = .ok (.iload_n 1, 1) := by decide +kernel
theorem dX6_reach_15 : decode cX6_reach 15 = .ok (.iload_n 2, 1) := by decide +kernel
theorem dX6_reach_16 : decode cX6_reach 16 = .ok (.invokestatic 61, 3) := by decide +kernel
theorem dX6_reach_19 : decode cX6_reach 19 = .ok (.aload_n 0, 1) := by decide +kernel
theorem dX6_reach_20 : decode cX6_reach 20 = .ok (.getfield 15, 3) := by decide +kernel
theorem dX6_reach_23 : decode cX6_reach 23 = .ok (.iload_n 1, 1) := by decide +kernel
theorem dX6_reach_24 : decode cX6_reach 24 = .ok (.iload_n 3, 1) := by decide +kernel
theorem dX6_reach_25 : decode cX6_reach 25 = .ok (.invokestatic 61, 3) := by decide +kernel
theorem dX6_reach_28 : decode cX6_reach 28 = .ok (.aload_n 0, 1) := by decide +kernel
theorem dX6_reach_29 : decode cX6_reach 29 = .ok (.getfield 18, 3) := by decide +kernel
theorem dX6_reach_32 : decode cX6_reach 32 = .ok (.iload_n 1, 1) := by decide +kernel
theorem dX6_reach_33 : decode cX6_reach 33 = .ok (.iload 4, 2) := by decide +kernel
theorem dX6_reach_35 : decode cX6_reach 35 = .ok (.invokestatic 61, 3) := by decide +kernel
theorem dX6_reach_38 : decode cX6_reach 38 = .ok (.aload_n 0, 1) := by decide +kernel
theorem dX6_reach_39 : decode cX6_reach 39 = .ok (.getfield 21, 3) := by decide +kernel
theorem dX6_reach_42 : decode cX6_reach 42 = .ok (.aload_n 0, 1) := by decide +kernel
theorem dX6_reach_43 : decode cX6_reach 43 = .ok (.getfield 30, 3) := by decide +kernel
theorem dX6_reach_46 : decode cX6_reach 46 = .ok (.iload_n 1, 1) := by decide +kernel
theorem dX6_reach_47 : decode cX6_reach 47 = .ok (.invokestatic 61, 3) := by decide +kernel
theorem dX6_reach_50 : decode cX6_reach 50 = .ok (.aload_n 0, 1) := by decide +kernel
theorem dX6_reach_51 : decode cX6_reach 51 = .ok (.dup, 1) := by decide +kernel
theorem dX6_reach_52 : decode cX6_reach 52 = .ok (.getfield 30, 3) := by decide +kernel
theorem dX6_reach_55 : decode cX6_reach 55 = .ok (.iconst 1, 1) := by decide +kernel
theorem dX6_reach_56 : decode cX6_reach 56 = .ok (.iadd, 1) := by decide +kernel
theorem dX6_reach_57 : decode cX6_reach 57 = .ok (.putfield 30, 3) := by decide +kernel
theorem dX6_reach_60 : decode cX6_reach 60 = .ok (.return_, 1) := by decide +kernel
theorem dX6_stepsTo_0 : decode cX6_stepsTo 0 = .ok (.aload_n 0, 1) := by decide +kernel
theorem dX6_stepsTo_1 : decode cX6_stepsTo 1 = .ok (.getfield 9, 3) := by decide +kernel
theorem dX6_stepsTo_4 : decode cX6_stepsTo 4 = .ok (.iload_n 1, 1) := by decide +kernel
theorem dX6_stepsTo_5 : decode cX6_stepsTo 5 = .ok (.invokestatic 38, 3) := by decide +kernel
theorem dX6_stepsTo_8 : decode cX6_stepsTo 8 = .ok (.ireturn, 1) := by decide +kernel
theorem dX6_firstThrowTo_0 : decode cX6_firstThrowTo 0 = .ok (.aload_n 0, 1) := by decide +kernel
theorem dX6_firstThrowTo_1 : decode cX6_firstThrowTo 1 = .ok (.getfield 15, 3) := by decide +kernel
theorem dX6_firstThrowTo_4 : decode cX6_firstThrowTo 4 = .ok (.iload_n 1, 1) := by decide +kernel
theorem dX6_firstThrowTo_5 : decode cX6_firstThrowTo 5 = .ok (.invokestatic 38, 3) := by decide +kernel
theorem dX6_firstThrowTo_8 : decode cX6_firstThrowTo 8 = .ok (.ireturn, 1) := by decide +kernel
theorem dX6_lastThrowTo_0 : decode cX6_lastThrowTo 0 = .ok (.aload_n 0, 1) := by decide +kernel
theorem dX6_lastThrowTo_1 : decode cX6_lastThrowTo 1 = .ok (.getfield 18, 3) := by decide +kernel
theorem dX6_lastThrowTo_4 : decode cX6_lastThrowTo 4 = .ok (.iload_n 1, 1) := by decide +kernel
theorem dX6_lastThrowTo_5 : decode cX6_lastThrowTo 5 = .ok (.invokestatic 38, 3) := by decide +kernel
theorem dX6_lastThrowTo_8 : decode cX6_lastThrowTo 8 = .ok (.ireturn, 1) := by decide +kernel
theorem dX7_init_0 : decode cX7_init 0 = .ok (.aload_n 0, 1) := by decide +kernel
theorem dX7_init_1 : decode cX7_init 1 = .ok (.invokespecial 3, 3) := by decide +kernel
theorem dX7_init_4 : decode cX7_init 4 = .ok (.aload_n 0, 1) := by decide +kernel
theorem dX7_init_5 : decode cX7_init 5 = .ok (.new 9, 3) := by decide +kernel
theorem dX7_init_8 : decode cX7_init 8 = .ok (.dup, 1) := by decide +kernel
theorem dX7_init_9 : decode cX7_init 9 = .ok (.invokespecial 11, 3) := by decide +kernel
theorem dX7_init_12 : decode cX7_init 12 = .ok (.putfield 12, 3) := by decide +kernel
theorem dX7_init_15 : decode cX7_init 15 = .ok (.aload_n 0, 1) := by decide +kernel
theorem dX7_init_16 : decode cX7_init 16 = .ok (.new 9, 3) := by decide +kernel
theorem dX7_init_19 : decode cX7_init 19 = .ok (.dup, 1) := by decide +kernel
theorem dX7_init_20 : decode cX7_init 20 = .ok (.invokespecial 11, 3) := by decide +kernel
theorem dX7_init_23 : decode cX7_init 23 = .ok (.putfield 16, 3) := by decide +kernel
theorem dX7_init_26 : decode cX7_init 26 = .ok (.aload_n 0, 1) := by decide +kernel
theorem dX7_init_27 : decode cX7_init 27 = .ok (.new 19, 3) := by decide +kernel
theorem dX7_init_30 : decode cX7_init 30 = .ok (.dup, 1) := by decide +kernel
theorem dX7_init_31 : decode cX7_init 31 = .ok (.invokespecial 21, 3) := by decide +kernel
theorem dX7_init_34 : decode cX7_init 34 = .ok (.putfield 22, 3) := by decide +kernel
theorem dX7_init_37 : decode cX7_init 37 = .ok (.aload_n 0, 1) := by decide +kernel
theorem dX7_init_38 : decode cX7_init 38 = .ok (.new 26, 3) := by decide +kernel
theorem dX7_init_41 : decode cX7_init 41 = .ok (.dup, 1) := by decide +kernel
theorem dX7_init_42 : decode cX7_init 42 = .ok (.invokespecial 28, 3) := by decide +kernel
theorem dX7_init_45 : decode cX7_init 45 = .ok (.putfield 29, 3) := by decide +kernel
theorem dX7_init_48 : decode cX7_init 48 = .ok (.aload_n 0, 1) := by decide +kernel
theorem dX7_init_49 : decode cX7_init 49 = .ok (.new 33, 3) := by decide +kernel
theorem dX7_init_52 : decode cX7_init 52 = .ok (.dup, 1) := by decide +kernel
theorem dX7_init_53 : decode cX7_init 53 = .ok (.invokespecial 35, 3) := by decide +kernel
theorem dX7_init_56 : decode cX7_init 56 = .ok (.putfield 36, 3) := by decide +kernel
theorem dX7_init_59 : decode cX7_init 59 = .ok (.aload_n 0, 1) := by decide +kernel
theorem dX7_init_60 : decode cX7_init 60 = .ok (.new 40, 3) := by decide +kernel
theorem dX7_init_63 : decode cX7_init 63 = .ok (.dup, 1) := by decide +kernel
theorem dX7_init_64 : decode cX7_init 64 = .ok (.invokespecial 42, 3) := by decide +kernel
theorem dX7_init_67 : decode cX7_init 67 = .ok (.putfield 43, 3) := by decide +kernel
theorem dX7_init_70 : decode cX7_init 70 = .ok (.aload_n 0, 1) := by decide +kernel
theorem dX7_init_71 : decode cX7_init 71 = .ok (.new 47, 3) := by decide +kernel
theorem dX7_init_74 : decode cX7_init 74 = .ok (.dup, 1) := by decide +kernel
theorem dX7_init_75 : decode cX7_init 75 = .ok (.invokespecial 49, 3) := by decide +kernel
theorem dX7_init_78 : decode cX7_init 78 = .ok (.putfield 50, 3) := by decide +kernel
theorem dX7_init_81 : decode cX7_init 81 = .ok (.aload_n 0, 1) := by decide +kernel
theorem dX7_init_82 : decode cX7_init 82 = .ok (.new 47, 3) := by decide +kernel
theorem dX7_init_85 : decode cX7_init 85 = .ok (.dup, 1) := by decide +kernel
theorem dX7_init_86 : decode cX7_init 86 = .ok (.invokespecial 49, 3) := by decide +kernel
theorem dX7_init_89 : decode cX7_init 89 = .ok (.putfield 54, 3) := by decide +kernel
theorem dX7_init_92 : decode cX7_init 92 = .ok (.return_, 1) := by decide +kernel
theorem dX7_start_0 : decode cX7_start 0 = .ok (.iload_n 1, 1) := by decide +kernel
theorem dX7_start_1 : decode cX7_start 1 = .ok (.iconst 0, 1) := by decide +kernel
theorem dX7_start_2 : decode cX7_start 2 = .ok (.bipush 8, 2) := by decide +kernel
theorem dX7_start_4 : decode cX7_start 4 = .ok (.invokestatic 57, 3) := by decide +kernel
theorem dX7_start_7 : decode cX7_start 7 = .ok (.ifCond .eq 13, 3) := by decide +kernel
theorem dX7_start_10 : decode cX7_start 10 = .ok (.iload_n 2, 1) := by decide +kernel
theorem dX7_start_11 : decode cX7_start 11 = .ok (.iconst 0, 1) := by decide +kernel
theorem dX7_start_12 : decode cX7_start 12 = .ok (.bipush 8, 2) := by decide +kernel
theorem dX7_start_14 : decode cX7_start 14 = .ok (.invokestatic 57, 3) := by decide +kernel
theorem dX7_start_17 : decode cX7_start 17 = .ok (.ifCond .ne 6, 3) := by decide +kernel
theorem dX7_start_20 : decode cX7_start 20 = .ok (.bipush (-2), 2) := by decide +kernel
theorem dX7_start_22 : decode cX7_start 22 = .ok (.ireturn, 1) := by decide +kernel
theorem dX7_start_23 : decode cX7_start 23 = .ok (.aload_n 0, 1) := by decide +kernel
theorem dX7_start_24 : decode cX7_start 24 = .ok (.getfield 12, 3) := by decide +kernel
theorem dX7_start_27 : decode cX7_start 27 = .ok (.invokevirtual 61, 3) := by decide +kernel
theorem dX7_start_30 : decode cX7_start 30 = .ok (.istore_n 3, 1) := by decide +kernel
theorem dX7_start_31 : decode cX7_start 31 = .ok (.aload_n 0, 1) := by decide +kernel
theorem dX7_start_32 : decode cX7_start 32 = .ok (.getfield 43, 3) := by decide +kernel
theorem dX7_start_35 : decode cX7_start 35 = .ok (.aload_n 0, 1) := by decide +kernel
theorem dX7_start_36 : decode cX7_start 36 = .ok (.getfield 12, 3) := by decide +kernel
theorem dX7_start_39 : decode cX7_start 39 = .ok (.invokevirtual 65, 3) := by decide +kernel
theorem dX7_start_42 : decode cX7_start 42 = .ok (.aload_n 0, 1) := by decide +kernel
theorem dX7_start_43 : decode cX7_start 43 = .ok (.getfield 12, 3) := by decide +kernel
theorem dX7_start_46 : decode cX7_start 46 = .ok (.iload_n 1, 1) := by decide +kernel
theorem dX7_start_47 : decode cX7_start 47 = .ok (.iload_n 2, 1) := by decide +kernel
theorem dX7_start_48 : decode cX7_start 48 = .ok (.invokevirtual 69, 3) := by decide +kernel
theorem dX7_start_51 : decode cX7_start 51 = .ok (.iload_n 3, 1) := by decide +kernel
theorem dX7_start_52 : decode cX7_start 52 = .ok (.ireturn, 1) := by decide +kernel
theorem dX7_read_0 : decode cX7_read 0 = .ok (.aload_n 0, 1) := by decide +kernel
theorem dX7_read_1 : decode cX7_read 1 = .ok (.getfield 22, 3) := by decide +kernel
theorem dX7_read_4 : decode cX7_read 4 = .ok (.invokevirtual 73, 3) := by decide +kernel
theorem dX7_read_7 : decode cX7_read 7 = .ok (.bipush (-6), 2) := by decide +kernel
theorem dX7_read_9 : decode cX7_read 9 = .ok (.if_icmp .eq 6, 3) := by decide +kernel
theorem dX7_read_12 : decode cX7_read 12 = .ok (.bipush (-3), 2) := by decide +kernel
theorem dX7_read_14 : decode cX7_read 14 = .ok (.ireturn, 1) := by decide +kernel
theorem dX7_read_15 : decode cX7_read 15 = .ok (.aload_n 0, 1) := by decide +kernel
theorem dX7_read_16 : decode cX7_read 16 = .ok (.getfield 43, 3) := by decide +kernel
theorem dX7_read_19 : decode cX7_read 19 = .ok (.aload_n 0, 1) := by decide +kernel
theorem dX7_read_20 : decode cX7_read 20 = .ok (.getfield 12, 3) := by decide +kernel
theorem dX7_read_23 : decode cX7_read 23 = .ok (.invokevirtual 65, 3) := by decide +kernel
theorem dX7_read_26 : decode cX7_read 26 = .ok (.aload_n 0, 1) := by decide +kernel
theorem dX7_read_27 : decode cX7_read 27 = .ok (.getfield 22, 3) := by decide +kernel
theorem dX7_read_30 : decode cX7_read 30 = .ok (.iconst 0, 1) := by decide +kernel
theorem dX7_read_31 : decode cX7_read 31 = .ok (.invokevirtual 76, 3) := by decide +kernel
theorem dX7_read_34 : decode cX7_read 34 = .ok (.istore_n 1, 1) := by decide +kernel
theorem dX7_read_35 : decode cX7_read 35 = .ok (.aload_n 0, 1) := by decide +kernel
theorem dX7_read_36 : decode cX7_read 36 = .ok (.getfield 12, 3) := by decide +kernel
theorem dX7_read_39 : decode cX7_read 39 = .ok (.iload_n 1, 1) := by decide +kernel
theorem dX7_read_40 : decode cX7_read 40 = .ok (.invokevirtual 80, 3) := by decide +kernel
theorem dX7_read_43 : decode cX7_read 43 = .ok (.aload_n 0, 1) := by decide +kernel
theorem dX7_read_44 : decode cX7_read 44 = .ok (.getfield 22, 3) := by decide +kernel
theorem dX7_read_47 : decode cX7_read 47 = .ok (.invokevirtual 84, 3) := by decide +kernel
theorem dX7_read_50 : decode cX7_read 50 = .ok (.aload_n 0, 1) := by decide +kernel
theorem dX7_read_51 : decode cX7_read 51 = .ok (.getfield 22, 3) := by decide +kernel
theorem dX7_read_54 : decode cX7_read 54 = .ok (.invokevirtual 90, 3) := by decide +kernel
theorem dX7_read_57 : decode cX7_read 57 = .ok (.iload_n 1, 1) := by decide +kernel
theorem dX7_read_58 : decode cX7_read 58 = .ok (.ireturn, 1) := by decide +kernel
theorem dX7_pass_0 : decode cX7_pass 0 = .ok (.iload_n 1, 1) := by decide +kernel
theorem dX7_pass_1 : decode cX7_pass 1 = .ok (.iconst 1, 1) := by decide +kernel
theorem dX7_pass_2 : decode cX7_pass 2 = .ok (.sipush 200, 3) := by decide +kernel
theorem dX7_pass_5 : decode cX7_pass 5 = .ok (.invokestatic 57, 3) := by decide +kernel
theorem dX7_pass_8 : decode cX7_pass 8 = .ok (.ifCond .ne 6, 3) := by decide +kernel
theorem dX7_pass_11 : decode cX7_pass 11 = .ok (.bipush (-2), 2) := by decide +kernel
theorem dX7_pass_13 : decode cX7_pass 13 = .ok (.ireturn, 1) := by decide +kernel
theorem dX7_pass_14 : decode cX7_pass 14 = .ok (.aload_n 0, 1) := by decide +kernel
theorem dX7_pass_15 : decode cX7_pass 15 = .ok (.getfield 12, 3) := by decide +kernel
theorem dX7_pass_18 : decode cX7_pass 18 = .ok (.getfield 93, 3) := by decide +kernel
theorem dX7_pass_21 : decode cX7_pass 21 = .ok (.iload_n 1, 1) := by decide +kernel
theorem dX7_pass_22 : decode cX7_pass 22 = .ok (.iadd, 1) := by decide +kernel
theorem dX7_pass_23 : decode cX7_pass 23 = .ok (.ldc 97, 2) := by decide +kernel
theorem dX7_pass_25 : decode cX7_pass 25 = .ok (.if_icmp .le 6, 3) := by decide +kernel
theorem dX7_pass_28 : decode cX7_pass 28 = .ok (.bipush (-4), 2) := by decide +kernel
theorem dX7_pass_30 : decode cX7_pass 30 = .ok (.ireturn, 1) := by decide +kernel
theorem dX7_pass_31 : decode cX7_pass 31 = .ok (.aload_n 0, 1) := by decide +kernel
theorem dX7_pass_32 : decode cX7_pass 32 = .ok (.getfield 43, 3) := by decide +kernel
theorem dX7_pass_35 : decode cX7_pass 35 = .ok (.aload_n 0, 1) := by decide +kernel
theorem dX7_pass_36 : decode cX7_pass 36 = .ok (.getfield 12, 3) := by decide +kernel
theorem dX7_pass_39 : decode cX7_pass 39 = .ok (.invokevirtual 65, 3) := by decide +kernel
theorem dX7_pass_42 : decode cX7_pass 42 = .ok (.aload_n 0, 1) := by decide +kernel
theorem dX7_pass_43 : decode cX7_pass 43 = .ok (.getfield 12, 3) := by decide +kernel
theorem dX7_pass_46 : decode cX7_pass 46 = .ok (.iload_n 1, 1) := by decide +kernel
theorem dX7_pass_47 : decode cX7_pass 47 = .ok (.invokevirtual 98, 3) := by decide +kernel
theorem dX7_pass_50 : decode cX7_pass 50 = .ok (.ireturn, 1) := by decide +kernel
theorem dX7_drop_0 : decode cX7_drop 0 = .ok (.iload_n 1, 1) := by decide +kernel
theorem dX7_drop_1 : decode cX7_drop 1 = .ok (.invokestatic 101, 3) := by decide +kernel
theorem dX7_drop_4 : decode cX7_drop 4 = .ok (.ifCond .ne 5, 3) := by decide +kernel
theorem dX7_drop_7 : decode cX7_drop 7 = .ok (.iconst (-1), 1) := by decide +kernel
theorem dX7_drop_8 : decode cX7_drop 8 = .ok (.ireturn, 1) := by decide +kernel
theorem dX7_drop_9 : decode cX7_drop 9 = .ok (.iload_n 2, 1) := by decide +kernel
theorem dX7_drop_10 : decode cX7_drop 10 = .ok (.invokestatic 105, 3) := by decide +kernel
theorem dX7_drop_13 : decode cX7_drop 13 = .ok (.ifCond .ne 6, 3) := by decide +kernel
theorem dX7_drop_16 : decode cX7_drop 16 = .ok (.bipush (-2), 2) := by decide +kernel
theorem dX7_drop_18 : decode cX7_drop 18 = .ok (.ireturn, 1) := by decide +kernel
theorem dX7_drop_19 : decode cX7_drop 19 = .ok (.aload_n 0, 1) := by decide +kernel
theorem dX7_drop_20 : decode cX7_drop 20 = .ok (.getfield 12, 3) := by decide +kernel
theorem dX7_drop_23 : decode cX7_drop 23 = .ok (.iload_n 1, 1) := by decide +kernel
theorem dX7_drop_24 : decode cX7_drop 24 = .ok (.invokevirtual 80, 3) := by decide +kernel
theorem dX7_drop_27 : decode cX7_drop 27 = .ok (.iload_n 2, 1) := by decide +kernel
theorem dX7_drop_28 : decode cX7_drop 28 = .ok (.invokevirtual 108, 3) := by decide +kernel
theorem dX7_drop_31 : decode cX7_drop 31 = .ok (.ifCond .ne 6, 3) := by decide +kernel
theorem dX7_drop_34 : decode cX7_drop 34 = .ok (.bipush (-5), 2) := by decide +kernel
theorem dX7_drop_36 : decode cX7_drop 36 = .ok (.ireturn, 1) := by decide +kernel
theorem dX7_drop_37 : decode cX7_drop 37 = .ok (.aload_n 0, 1) := by decide +kernel
theorem dX7_drop_38 : decode cX7_drop 38 = .ok (.getfield 43, 3) := by decide +kernel
theorem dX7_drop_41 : decode cX7_drop 41 = .ok (.aload_n 0, 1) := by decide +kernel
theorem dX7_drop_42 : decode cX7_drop 42 = .ok (.getfield 12, 3) := by decide +kernel
theorem dX7_drop_45 : decode cX7_drop 45 = .ok (.invokevirtual 65, 3) := by decide +kernel
theorem dX7_drop_48 : decode cX7_drop 48 = .ok (.aload_n 0, 1) := by decide +kernel
theorem dX7_drop_49 : decode cX7_drop 49 = .ok (.getfield 12, 3) := by decide +kernel
theorem dX7_drop_52 : decode cX7_drop 52 = .ok (.iload_n 1, 1) := by decide +kernel
theorem dX7_drop_53 : decode cX7_drop 53 = .ok (.invokevirtual 80, 3) := by decide +kernel
theorem dX7_drop_56 : decode cX7_drop 56 = .ok (.iload_n 2, 1) := by decide +kernel
theorem dX7_drop_57 : decode cX7_drop 57 = .ok (.invokevirtual 111, 3) := by decide +kernel
theorem dX7_drop_60 : decode cX7_drop 60 = .ok (.aload_n 0, 1) := by decide +kernel
theorem dX7_drop_61 : decode cX7_drop 61 = .ok (.getfield 12, 3) := by decide +kernel
theorem dX7_drop_64 : decode cX7_drop 64 = .ok (.dup, 1) := by decide +kernel
theorem dX7_drop_65 : decode cX7_drop 65 = .ok (.getfield 115, 3) := by decide +kernel
theorem dX7_drop_68 : decode cX7_drop 68 = .ok (.iconst 1, 1) := by decide +kernel
theorem dX7_drop_69 : decode cX7_drop 69 = .ok (.iadd, 1) := by decide +kernel
theorem dX7_drop_70 : decode cX7_drop 70 = .ok (.putfield 115, 3) := by decide +kernel
theorem dX7_drop_73 : decode cX7_drop 73 = .ok (.aload_n 0, 1) := by decide +kernel
theorem dX7_drop_74 : decode cX7_drop 74 = .ok (.getfield 12, 3) := by decide +kernel
theorem dX7_drop_77 : decode cX7_drop 77 = .ok (.getfield 115, 3) := by decide +kernel
theorem dX7_drop_80 : decode cX7_drop 80 = .ok (.ireturn, 1) := by decide +kernel
theorem dX7_pick_0 : decode cX7_pick 0 = .ok (.iload_n 1, 1) := by decide +kernel
theorem dX7_pick_1 : decode cX7_pick 1 = .ok (.invokestatic 101, 3) := by decide +kernel
theorem dX7_pick_4 : decode cX7_pick 4 = .ok (.ifCond .ne 5, 3) := by decide +kernel
theorem dX7_pick_7 : decode cX7_pick 7 = .ok (.iconst (-1), 1) := by decide +kernel
theorem dX7_pick_8 : decode cX7_pick 8 = .ok (.ireturn, 1) := by decide +kernel
theorem dX7_pick_9 : decode cX7_pick 9 = .ok (.iload_n 2, 1) := by decide +kernel
theorem dX7_pick_10 : decode cX7_pick 10 = .ok (.invokestatic 105, 3) := by decide +kernel
theorem dX7_pick_13 : decode cX7_pick 13 = .ok (.ifCond .ne 6, 3) := by decide +kernel
theorem dX7_pick_16 : decode cX7_pick 16 = .ok (.bipush (-2), 2) := by decide +kernel
theorem dX7_pick_18 : decode cX7_pick 18 = .ok (.ireturn, 1) := by decide +kernel
theorem dX7_pick_19 : decode cX7_pick 19 = .ok (.aload_n 0, 1) := by decide +kernel
theorem dX7_pick_20 : decode cX7_pick 20 = .ok (.getfield 12, 3) := by decide +kernel
theorem dX7_pick_23 : decode cX7_pick 23 = .ok (.getfield 115, 3) := by decide +kernel
theorem dX7_pick_26 : decode cX7_pick 26 = .ok (.ifCond .eq 18, 3) := by decide +kernel
theorem dX7_pick_29 : decode cX7_pick 29 = .ok (.aload_n 0, 1) := by decide +kernel
theorem dX7_pick_30 : decode cX7_pick 30 = .ok (.getfield 12, 3) := by decide +kernel
theorem dX7_pick_33 : decode cX7_pick 33 = .ok (.iload_n 1, 1) := by decide +kernel
theorem dX7_pick_34 : decode cX7_pick 34 = .ok (.invokevirtual 80, 3) := by decide +kernel
theorem dX7_pick_37 : decode cX7_pick 37 = .ok (.iload_n 2, 1) := by decide +kernel
theorem dX7_pick_38 : decode cX7_pick 38 = .ok (.invokevirtual 108, 3) := by decide +kernel
theorem dX7_pick_41 : decode cX7_pick 41 = .ok (.ifCond .eq 6, 3) := by decide +kernel
theorem dX7_pick_44 : decode cX7_pick 44 = .ok (.bipush (-5), 2) := by decide +kernel
theorem dX7_pick_46 : decode cX7_pick 46 = .ok (.ireturn, 1) := by decide +kernel
theorem dX7_pick_47 : decode cX7_pick 47 = .ok (.aload_n 0, 1) := by decide +kernel
theorem dX7_pick_48 : decode cX7_pick 48 = .ok (.getfield 43, 3) := by decide +kernel
theorem dX7_pick_51 : decode cX7_pick 51 = .ok (.aload_n 0, 1) := by decide +kernel
theorem dX7_pick_52 : decode cX7_pick 52 = .ok (.getfield 12, 3) := by decide +kernel
theorem dX7_pick_55 : decode cX7_pick 55 = .ok (.invokevirtual 65, 3) := by decide +kernel
theorem dX7_pick_58 : decode cX7_pick 58 = .ok (.aload_n 0, 1) := by decide +kernel
theorem dX7_pick_59 : decode cX7_pick 59 = .ok (.getfield 12, 3) := by decide +kernel
theorem dX7_pick_62 : decode cX7_pick 62 = .ok (.iload_n 1, 1) := by decide +kernel
theorem dX7_pick_63 : decode cX7_pick 63 = .ok (.invokevirtual 80, 3) := by decide +kernel
theorem dX7_pick_66 : decode cX7_pick 66 = .ok (.iload_n 2, 1) := by decide +kernel
theorem dX7_pick_67 : decode cX7_pick 67 = .ok (.invokevirtual 118, 3) := by decide +kernel
theorem dX7_pick_70 : decode cX7_pick 70 = .ok (.aload_n 0, 1) := by decide +kernel
theorem dX7_pick_71 : decode cX7_pick 71 = .ok (.getfield 12, 3) := by decide +kernel
theorem dX7_pick_74 : decode cX7_pick 74 = .ok (.dup, 1) := by decide +kernel
theorem dX7_pick_75 : decode cX7_pick 75 = .ok (.getfield 115, 3) := by decide +kernel
theorem dX7_pick_78 : decode cX7_pick 78 = .ok (.iconst 1, 1) := by decide +kernel
theorem dX7_pick_79 : decode cX7_pick 79 = .ok (.isub, 1) := by decide +kernel
theorem dX7_pick_80 : decode cX7_pick 80 = .ok (.putfield 115, 3) := by decide +kernel
theorem dX7_pick_83 : decode cX7_pick 83 = .ok (.aload_n 0, 1) := by decide +kernel
theorem dX7_pick_84 : decode cX7_pick 84 = .ok (.getfield 12, 3) := by decide +kernel
theorem dX7_pick_87 : decode cX7_pick 87 = .ok (.getfield 115, 3) := by decide +kernel
theorem dX7_pick_90 : decode cX7_pick 90 = .ok (.ireturn, 1) := by decide +kernel
theorem dX7_of_0 : decode cX7_of 0 = .ok (.iload_n 1, 1) := by decide +kernel
theorem dX7_of_1 : decode cX7_of 1 = .ok (.invokestatic 101, 3) := by decide +kernel
theorem dX7_of_4 : decode cX7_of 4 = .ok (.ifCond .ne 5, 3) := by decide +kernel
theorem dX7_of_7 : decode cX7_of 7 = .ok (.iconst (-1), 1) := by decide +kernel
theorem dX7_of_8 : decode cX7_of 8 = .ok (.ireturn, 1) := by decide +kernel
theorem dX7_of_9 : decode cX7_of 9 = .ok (.aload_n 0, 1) := by decide +kernel
theorem dX7_of_10 : decode cX7_of 10 = .ok (.getfield 12, 3) := by decide +kernel
theorem dX7_of_13 : decode cX7_of 13 = .ok (.iload_n 1, 1) := by decide +kernel
theorem dX7_of_14 : decode cX7_of 14 = .ok (.invokevirtual 80, 3) := by decide +kernel
theorem dX7_of_17 : decode cX7_of 17 = .ok (.astore_n 3, 1) := by decide +kernel
theorem dX7_of_18 : decode cX7_of 18 = .ok (.iload_n 2, 1) := by decide +kernel
theorem dX7_of_19 : decode cX7_of 19 = .ok (.tableswitch 67 0 5 #[37, 42, 47, 52, 57, 62], 37) := by decide +kernel
theorem dX7_of_56 : decode cX7_of 56 = .ok (.aload_n 3, 1) := by decide +kernel
theorem dX7_of_57 : decode cX7_of 57 = .ok (.getfield 121, 3) := by decide +kernel
theorem dX7_of_60 : decode cX7_of 60 = .ok (.ireturn, 1) := by decide +kernel
theorem dX7_of_61 : decode cX7_of 61 = .ok (.aload_n 3, 1) := by decide +kernel
theorem dX7_of_62 : decode cX7_of 62 = .ok (.invokevirtual 124, 3) := by decide +kernel
theorem dX7_of_65 : decode cX7_of 65 = .ok (.ireturn, 1) := by decide +kernel
theorem dX7_of_66 : decode cX7_of 66 = .ok (.aload_n 3, 1) := by decide +kernel
theorem dX7_of_67 : decode cX7_of 67 = .ok (.getfield 125, 3) := by decide +kernel
theorem dX7_of_70 : decode cX7_of 70 = .ok (.ireturn, 1) := by decide +kernel
theorem dX7_of_71 : decode cX7_of 71 = .ok (.aload_n 3, 1) := by decide +kernel
theorem dX7_of_72 : decode cX7_of 72 = .ok (.getfield 128, 3) := by decide +kernel
theorem dX7_of_75 : decode cX7_of 75 = .ok (.ireturn, 1) := by decide +kernel
theorem dX7_of_76 : decode cX7_of 76 = .ok (.aload_n 3, 1) := by decide +kernel
theorem dX7_of_77 : decode cX7_of 77 = .ok (.getfield 131, 3) := by decide +kernel
theorem dX7_of_80 : decode cX7_of 80 = .ok (.ireturn, 1) := by decide +kernel
theorem dX7_of_81 : decode cX7_of 81 = .ok (.aload_n 3, 1) := by decide +kernel
theorem dX7_of_82 : decode cX7_of 82 = .ok (.getfield 134, 3) := by decide +kernel
theorem dX7_of_85 : decode cX7_of 85 = .ok (.ireturn, 1) := by decide +kernel
theorem dX7_of_86 : decode cX7_of 86 = .ok (.bipush (-2), 2) := by decide +kernel
theorem dX7_of_88 : decode cX7_of 88 = .ok (.ireturn, 1) := by decide +kernel
theorem dX7_thrown_0 : decode cX7_thrown 0 = .ok (.iload_n 1, 1) := by decide +kernel
theorem dX7_thrown_1 : decode cX7_thrown 1 = .ok (.invokestatic 101, 3) := by decide +kernel
theorem dX7_thrown_4 : decode cX7_thrown 4 = .ok (.ifCond .ne 5, 3) := by decide +kernel
theorem dX7_thrown_7 : decode cX7_thrown 7 = .ok (.iconst (-1), 1) := by decide +kernel
theorem dX7_thrown_8 : decode cX7_thrown 8 = .ok (.ireturn, 1) := by decide +kernel
theorem dX7_thrown_9 : decode cX7_thrown 9 = .ok (.aload_n 0, 1) := by decide +kernel
theorem dX7_thrown_10 : decode cX7_thrown 10 = .ok (.getfield 12, 3) := by decide +kernel
theorem dX7_thrown_13 : decode cX7_thrown 13 = .ok (.iload_n 1, 1) := by decide +kernel
theorem dX7_thrown_14 : decode cX7_thrown 14 = .ok (.invokevirtual 80, 3) := by decide +kernel
theorem dX7_thrown_17 : decode cX7_thrown 17 = .ok (.astore 4, 2) := by decide +kernel
theorem dX7_thrown_19 : decode cX7_thrown 19 = .ok (.iload_n 2, 1) := by decide +kernel
theorem dX7_thrown_20 : decode cX7_thrown 20 = .ok (.iconst 0, 1) := by decide +kernel
theorem dX7_thrown_21 : decode cX7_thrown 21 = .ok (.aload 4, 2) := by decide +kernel
theorem dX7_thrown_23 : decode cX7_thrown 23 = .ok (.getfield 125, 3) := by decide +kernel
theorem dX7_thrown_26 : decode cX7_thrown 26 = .ok (.iconst 1, 1) := by decide +kernel
theorem dX7_thrown_27 : decode cX7_thrown 27 = .ok (.isub, 1) := by decide +kernel
theorem dX7_thrown_28 : decode cX7_thrown 28 = .ok (.invokestatic 57, 3) := by decide +kernel
theorem dX7_thrown_31 : decode cX7_thrown 31 = .ok (.ifCond .ne 5, 3) := by decide +kernel
theorem dX7_thrown_34 : decode cX7_thrown 34 = .ok (.iconst (-1), 1) := by decide +kernel
theorem dX7_thrown_35 : decode cX7_thrown 35 = .ok (.ireturn, 1) := by decide +kernel
theorem dX7_thrown_36 : decode cX7_thrown 36 = .ok (.iload_n 3, 1) := by decide +kernel
theorem dX7_thrown_37 : decode cX7_thrown 37 = .ok (.lookupswitch 44 #[(0, 27), (1, 34)], 27) := by decide +kernel
theorem dX7_thrown_64 : decode cX7_thrown 64 = .ok (.aload 4, 2) := by decide +kernel
theorem dX7_thrown_66 : decode cX7_thrown 66 = .ok (.iload_n 2, 1) := by decide +kernel
theorem dX7_thrown_67 : decode cX7_thrown 67 = .ok (.invokevirtual 137, 3) := by decide +kernel
theorem dX7_thrown_70 : decode cX7_thrown 70 = .ok (.ireturn, 1) := by decide +kernel
theorem dX7_thrown_71 : decode cX7_thrown 71 = .ok (.aload 4, 2) := by decide +kernel
theorem dX7_thrown_73 : decode cX7_thrown 73 = .ok (.iload_n 2, 1) := by decide +kernel
theorem dX7_thrown_74 : decode cX7_thrown 74 = .ok (.invokevirtual 140, 3) := by decide +kernel
theorem dX7_thrown_77 : decode cX7_thrown 77 = .ok (.invokestatic 143, 3) := by decide +kernel
theorem dX7_thrown_80 : decode cX7_thrown 80 = .ok (.ireturn, 1) := by decide +kernel
theorem dX7_thrown_81 : decode cX7_thrown 81 = .ok (.bipush (-2), 2) := by decide +kernel
theorem dX7_thrown_83 : decode cX7_thrown 83 = .ok (.ireturn, 1) := by decide +kernel
theorem dX7_count_0 : decode cX7_count 0 = .ok (.iload_n 1, 1) := by decide +kernel
theorem dX7_count_1 : decode cX7_count 1 = .ok (.tableswitch 99 0 6 #[43, 51, 59, 67, 75, 83, 91], 43) := by decide +kernel
theorem dX7_count_44 : decode cX7_count 44 = .ok (.aload_n 0, 1) := by decide +kernel
theorem dX7_count_45 : decode cX7_count 45 = .ok (.getfield 12, 3) := by decide +kernel
theorem dX7_count_48 : decode cX7_count 48 = .ok (.getfield 93, 3) := by decide +kernel
theorem dX7_count_51 : decode cX7_count 51 = .ok (.ireturn, 1) := by decide +kernel
theorem dX7_count_52 : decode cX7_count 52 = .ok (.aload_n 0, 1) := by decide +kernel
theorem dX7_count_53 : decode cX7_count 53 = .ok (.getfield 12, 3) := by decide +kernel
theorem dX7_count_56 : decode cX7_count 56 = .ok (.getfield 115, 3) := by decide +kernel
theorem dX7_count_59 : decode cX7_count 59 = .ok (.ireturn, 1) := by decide +kernel
theorem dX7_count_60 : decode cX7_count 60 = .ok (.aload_n 0, 1) := by decide +kernel
theorem dX7_count_61 : decode cX7_count 61 = .ok (.getfield 12, 3) := by decide +kernel
theorem dX7_count_64 : decode cX7_count 64 = .ok (.invokevirtual 61, 3) := by decide +kernel
theorem dX7_count_67 : decode cX7_count 67 = .ok (.ireturn, 1) := by decide +kernel
theorem dX7_count_68 : decode cX7_count 68 = .ok (.aload_n 0, 1) := by decide +kernel
theorem dX7_count_69 : decode cX7_count 69 = .ok (.getfield 12, 3) := by decide +kernel
theorem dX7_count_72 : decode cX7_count 72 = .ok (.getfield 147, 3) := by decide +kernel
theorem dX7_count_75 : decode cX7_count 75 = .ok (.ireturn, 1) := by decide +kernel
theorem dX7_count_76 : decode cX7_count 76 = .ok (.aload_n 0, 1) := by decide +kernel
theorem dX7_count_77 : decode cX7_count 77 = .ok (.getfield 12, 3) := by decide +kernel
theorem dX7_count_80 : decode cX7_count 80 = .ok (.getfield 150, 3) := by decide +kernel
theorem dX7_count_83 : decode cX7_count 83 = .ok (.ireturn, 1) := by decide +kernel
theorem dX7_count_84 : decode cX7_count 84 = .ok (.aload_n 0, 1) := by decide +kernel
theorem dX7_count_85 : decode cX7_count 85 = .ok (.getfield 22, 3) := by decide +kernel
theorem dX7_count_88 : decode cX7_count 88 = .ok (.getfield 153, 3) := by decide +kernel
theorem dX7_count_91 : decode cX7_count 91 = .ok (.ireturn, 1) := by decide +kernel
theorem dX7_count_92 : decode cX7_count 92 = .ok (.aload_n 0, 1) := by decide +kernel
theorem dX7_count_93 : decode cX7_count 93 = .ok (.getfield 43, 3) := by decide +kernel
theorem dX7_count_96 : decode cX7_count 96 = .ok (.getfield 156, 3) := by decide +kernel
theorem dX7_count_99 : decode cX7_count 99 = .ok (.ireturn, 1) := by decide +kernel
theorem dX7_count_100 : decode cX7_count 100 = .ok (.bipush (-2), 2) := by decide +kernel
theorem dX7_count_102 : decode cX7_count 102 = .ok (.ireturn, 1) := by decide +kernel
theorem dX7_firstDrop_0 : decode cX7_firstDrop 0 = .ok (.aload_n 0, 1) := by decide +kernel
theorem dX7_firstDrop_1 : decode cX7_firstDrop 1 = .ok (.getfield 16, 3) := by decide +kernel
theorem dX7_firstDrop_4 : decode cX7_firstDrop 4 = .ok (.aload_n 0, 1) := by decide +kernel
theorem dX7_firstDrop_5 : decode cX7_firstDrop 5 = .ok (.getfield 12, 3) := by decide +kernel
theorem dX7_firstDrop_8 : decode cX7_firstDrop 8 = .ok (.invokevirtual 159, 3) := by decide +kernel
theorem dX7_firstDrop_11 : decode cX7_firstDrop 11 = .ok (.iconst 0, 1) := by decide +kernel
theorem dX7_firstDrop_12 : decode cX7_firstDrop 12 = .ok (.istore_n 1, 1) := by decide +kernel
theorem dX7_firstDrop_13 : decode cX7_firstDrop 13 = .ok (.iload_n 1, 1) := by decide +kernel
theorem dX7_firstDrop_14 : decode cX7_firstDrop 14 = .ok (.sipush 1000, 3) := by decide +kernel
theorem dX7_firstDrop_17 : decode cX7_firstDrop 17 = .ok (.if_icmp .ge 22, 3) := by decide +kernel
theorem dX7_firstDrop_20 : decode cX7_firstDrop 20 = .ok (.aload_n 0, 1) := by decide +kernel
theorem dX7_firstDrop_21 : decode cX7_firstDrop 21 = .ok (.getfield 16, 3) := by decide +kernel
theorem dX7_firstDrop_24 : decode cX7_firstDrop 24 = .ok (.iconst 1, 1) := by decide +kernel
theorem dX7_firstDrop_25 : decode cX7_firstDrop 25 = .ok (.invokevirtual 98, 3) := by decide +kernel
theorem dX7_firstDrop_28 : decode cX7_firstDrop 28 = .ok (.ifCond .le 5, 3) := by decide +kernel
theorem dX7_firstDrop_31 : decode cX7_firstDrop 31 = .ok (.iload_n 1, 1) := by decide +kernel
theorem dX7_firstDrop_32 : decode cX7_firstDrop 32 = .ok (.ireturn, 1) := by decide +kernel
theorem dX7_firstDrop_33 : decode cX7_firstDrop 33 = .ok (.iinc 1 1, 3) := by decide +kernel
theorem dX7_firstDrop_36 : decode cX7_firstDrop 36 = .ok (.goto (-23), 3) := by decide +kernel
theorem dX7_firstDrop_39 : decode cX7_firstDrop 39 = .ok (.bipush (-6), 2) := by decide +kernel
theorem dX7_firstDrop_41 : decode cX7_firstDrop 41 = .ok (.ireturn, 1) := by decide +kernel
theorem dX7_comesRound_0 : decode cX7_comesRound 0 = .ok (.aload_n 0, 1) := by decide +kernel
theorem dX7_comesRound_1 : decode cX7_comesRound 1 = .ok (.getfield 16, 3) := by decide +kernel
theorem dX7_comesRound_4 : decode cX7_comesRound 4 = .ok (.aload_n 0, 1) := by decide +kernel
theorem dX7_comesRound_5 : decode cX7_comesRound 5 = .ok (.getfield 12, 3) := by decide +kernel
theorem dX7_comesRound_8 : decode cX7_comesRound 8 = .ok (.invokevirtual 159, 3) := by decide +kernel
theorem dX7_comesRound_11 : decode cX7_comesRound 11 = .ok (.iconst 1, 1) := by decide +kernel
theorem dX7_comesRound_12 : decode cX7_comesRound 12 = .ok (.istore_n 1, 1) := by decide +kernel
theorem dX7_comesRound_13 : decode cX7_comesRound 13 = .ok (.iload_n 1, 1) := by decide +kernel
theorem dX7_comesRound_14 : decode cX7_comesRound 14 = .ok (.sipush 1000, 3) := by decide +kernel
theorem dX7_comesRound_17 : decode cX7_comesRound 17 = .ok (.if_icmp .gt 34, 3) := by decide +kernel
theorem dX7_comesRound_20 : decode cX7_comesRound 20 = .ok (.aload_n 0, 1) := by decide +kernel
theorem dX7_comesRound_21 : decode cX7_comesRound 21 = .ok (.getfield 16, 3) := by decide +kernel
theorem dX7_comesRound_24 : decode cX7_comesRound 24 = .ok (.iconst 1, 1) := by decide +kernel
theorem dX7_comesRound_25 : decode cX7_comesRound 25 = .ok (.invokevirtual 98, 3) := by decide +kernel
theorem dX7_comesRound_28 : decode cX7_comesRound 28 = .ok (.pop, 1) := by decide +kernel
theorem dX7_comesRound_29 : decode cX7_comesRound 29 = .ok (.aload_n 0, 1) := by decide +kernel
theorem dX7_comesRound_30 : decode cX7_comesRound 30 = .ok (.getfield 16, 3) := by decide +kernel
theorem dX7_comesRound_33 : decode cX7_comesRound 33 = .ok (.aload_n 0, 1) := by decide +kernel
theorem dX7_comesRound_34 : decode cX7_comesRound 34 = .ok (.getfield 12, 3) := by decide +kernel
theorem dX7_comesRound_37 : decode cX7_comesRound 37 = .ok (.invokevirtual 162, 3) := by decide +kernel
theorem dX7_comesRound_40 : decode cX7_comesRound 40 = .ok (.ifCond .eq 5, 3) := by decide +kernel
theorem dX7_comesRound_43 : decode cX7_comesRound 43 = .ok (.iload_n 1, 1) := by decide +kernel
theorem dX7_comesRound_44 : decode cX7_comesRound 44 = .ok (.ireturn, 1) := by decide +kernel
theorem dX7_comesRound_45 : decode cX7_comesRound 45 = .ok (.iinc 1 1, 3) := by decide +kernel
theorem dX7_comesRound_48 : decode cX7_comesRound 48 = .ok (.goto (-35), 3) := by decide +kernel
theorem dX7_comesRound_51 : decode cX7_comesRound 51 = .ok (.bipush (-6), 2) := by decide +kernel
theorem dX7_comesRound_53 : decode cX7_comesRound 53 = .ok (.ireturn, 1) := by decide +kernel
theorem dX7_stateBehind_0 : decode cX7_stateBehind 0 = .ok (.iload_n 1, 1) := by decide +kernel
theorem dX7_stateBehind_1 : decode cX7_stateBehind 1 = .ok (.invokestatic 101, 3) := by decide +kernel
theorem dX7_stateBehind_4 : decode cX7_stateBehind 4 = .ok (.ifCond .ne 5, 3) := by decide +kernel
theorem dX7_stateBehind_7 : decode cX7_stateBehind 7 = .ok (.iconst (-1), 1) := by decide +kernel
theorem dX7_stateBehind_8 : decode cX7_stateBehind 8 = .ok (.ireturn, 1) := by decide +kernel
theorem dX7_stateBehind_9 : decode cX7_stateBehind 9 = .ok (.iload_n 2, 1) := by decide +kernel
theorem dX7_stateBehind_10 : decode cX7_stateBehind 10 = .ok (.iconst 1, 1) := by decide +kernel
theorem dX7_stateBehind_11 : decode cX7_stateBehind 11 = .ok (.sipush 200, 3) := by decide +kernel
theorem dX7_stateBehind_14 : decode cX7_stateBehind 14 = .ok (.invokestatic 57, 3) := by decide +kernel
theorem dX7_stateBehind_17 : decode cX7_stateBehind 17 = .ok (.ifCond .ne 6, 3) := by decide +kernel
theorem dX7_stateBehind_20 : decode cX7_stateBehind 20 = .ok (.bipush (-2), 2) := by decide +kernel
theorem dX7_stateBehind_22 : decode cX7_stateBehind 22 = .ok (.ireturn, 1) := by decide +kernel
theorem dX7_stateBehind_23 : decode cX7_stateBehind 23 = .ok (.aload_n 0, 1) := by decide +kernel
theorem dX7_stateBehind_24 : decode cX7_stateBehind 24 = .ok (.getfield 16, 3) := by decide +kernel
theorem dX7_stateBehind_27 : decode cX7_stateBehind 27 = .ok (.aload_n 0, 1) := by decide +kernel
theorem dX7_stateBehind_28 : decode cX7_stateBehind 28 = .ok (.getfield 12, 3) := by decide +kernel
theorem dX7_stateBehind_31 : decode cX7_stateBehind 31 = .ok (.invokevirtual 159, 3) := by decide +kernel
theorem dX7_stateBehind_34 : decode cX7_stateBehind 34 = .ok (.aload_n 0, 1) := by decide +kernel
theorem dX7_stateBehind_35 : decode cX7_stateBehind 35 = .ok (.getfield 16, 3) := by decide +kernel
theorem dX7_stateBehind_38 : decode cX7_stateBehind 38 = .ok (.iload_n 2, 1) := by decide +kernel
theorem dX7_stateBehind_39 : decode cX7_stateBehind 39 = .ok (.invokevirtual 98, 3) := by decide +kernel
theorem dX7_stateBehind_42 : decode cX7_stateBehind 42 = .ok (.pop, 1) := by decide +kernel
theorem dX7_stateBehind_43 : decode cX7_stateBehind 43 = .ok (.aload_n 0, 1) := by decide +kernel
theorem dX7_stateBehind_44 : decode cX7_stateBehind 44 = .ok (.getfield 16, 3) := by decide +kernel
theorem dX7_stateBehind_47 : decode cX7_stateBehind 47 = .ok (.iload_n 1, 1) := by decide +kernel
theorem dX7_stateBehind_48 : decode cX7_stateBehind 48 = .ok (.invokevirtual 80, 3) := by decide +kernel
theorem dX7_stateBehind_51 : decode cX7_stateBehind 51 = .ok (.getfield 121, 3) := by decide +kernel
theorem dX7_stateBehind_54 : decode cX7_stateBehind 54 = .ok (.ireturn, 1) := by decide +kernel
theorem dX7_pattern_0 : decode cX7_pattern 0 = .ok (.aload_n 0, 1) := by decide +kernel
theorem dX7_pattern_1 : decode cX7_pattern 1 = .ok (.getfield 29, 3) := by decide +kernel
theorem dX7_pattern_4 : decode cX7_pattern 4 = .ok (.aload_n 0, 1) := by decide +kernel
theorem dX7_pattern_5 : decode cX7_pattern 5 = .ok (.getfield 22, 3) := by decide +kernel
theorem dX7_pattern_8 : decode cX7_pattern 8 = .ok (.invokevirtual 166, 3) := by decide +kernel
theorem dX7_pattern_11 : decode cX7_pattern 11 = .ok (.ifCond .ne 6, 3) := by decide +kernel
theorem dX7_pattern_14 : decode cX7_pattern 14 = .ok (.bipush (-3), 2) := by decide +kernel
theorem dX7_pattern_16 : decode cX7_pattern 16 = .ok (.ireturn, 1) := by decide +kernel
theorem dX7_pattern_17 : decode cX7_pattern 17 = .ok (.iload_n 1, 1) := by decide +kernel
theorem dX7_pattern_18 : decode cX7_pattern 18 = .ok (.iconst 0, 1) := by decide +kernel
theorem dX7_pattern_19 : decode cX7_pattern 19 = .ok (.bipush 6, 2) := by decide +kernel
theorem dX7_pattern_21 : decode cX7_pattern 21 = .ok (.invokestatic 57, 3) := by decide +kernel
theorem dX7_pattern_24 : decode cX7_pattern 24 = .ok (.ifCond .ne 6, 3) := by decide +kernel
theorem dX7_pattern_27 : decode cX7_pattern 27 = .ok (.bipush (-2), 2) := by decide +kernel
theorem dX7_pattern_29 : decode cX7_pattern 29 = .ok (.ireturn, 1) := by decide +kernel
theorem dX7_pattern_30 : decode cX7_pattern 30 = .ok (.aload_n 0, 1) := by decide +kernel
theorem dX7_pattern_31 : decode cX7_pattern 31 = .ok (.getfield 29, 3) := by decide +kernel
theorem dX7_pattern_34 : decode cX7_pattern 34 = .ok (.invokevirtual 169, 3) := by decide +kernel
theorem dX7_pattern_37 : decode cX7_pattern 37 = .ok (.istore_n 2, 1) := by decide +kernel
theorem dX7_pattern_38 : decode cX7_pattern 38 = .ok (.iload_n 2, 1) := by decide +kernel
theorem dX7_pattern_39 : decode cX7_pattern 39 = .ok (.ifCond .ne 10, 3) := by decide +kernel
theorem dX7_pattern_42 : decode cX7_pattern 42 = .ok (.iload_n 1, 1) := by decide +kernel
theorem dX7_pattern_43 : decode cX7_pattern 43 = .ok (.ifCond .eq 6, 3) := by decide +kernel
theorem dX7_pattern_46 : decode cX7_pattern 46 = .ok (.bipush (-5), 2) := by decide +kernel
theorem dX7_pattern_48 : decode cX7_pattern 48 = .ok (.ireturn, 1) := by decide +kernel
theorem dX7_pattern_49 : decode cX7_pattern 49 = .ok (.iload_n 1, 1) := by decide +kernel
theorem dX7_pattern_50 : decode cX7_pattern 50 = .ok (.tableswitch 108 1 6 #[38, 46, 54, 62, 71, 79], 38) := by decide +kernel
theorem dX7_pattern_88 : decode cX7_pattern 88 = .ok (.aload_n 0, 1) := by decide +kernel
theorem dX7_pattern_89 : decode cX7_pattern 89 = .ok (.getfield 29, 3) := by decide +kernel
theorem dX7_pattern_92 : decode cX7_pattern 92 = .ok (.invokevirtual 173, 3) := by decide +kernel
theorem dX7_pattern_95 : decode cX7_pattern 95 = .ok (.ireturn, 1) := by decide +kernel
theorem dX7_pattern_96 : decode cX7_pattern 96 = .ok (.aload_n 0, 1) := by decide +kernel
theorem dX7_pattern_97 : decode cX7_pattern 97 = .ok (.getfield 29, 3) := by decide +kernel
theorem dX7_pattern_100 : decode cX7_pattern 100 = .ok (.invokevirtual 174, 3) := by decide +kernel
theorem dX7_pattern_103 : decode cX7_pattern 103 = .ok (.ireturn, 1) := by decide +kernel
theorem dX7_pattern_104 : decode cX7_pattern 104 = .ok (.aload_n 0, 1) := by decide +kernel
theorem dX7_pattern_105 : decode cX7_pattern 105 = .ok (.getfield 29, 3) := by decide +kernel
theorem dX7_pattern_108 : decode cX7_pattern 108 = .ok (.invokevirtual 177, 3) := by decide +kernel
theorem dX7_pattern_111 : decode cX7_pattern 111 = .ok (.ireturn, 1) := by decide +kernel
theorem dX7_pattern_112 : decode cX7_pattern 112 = .ok (.aload_n 0, 1) := by decide +kernel
theorem dX7_pattern_113 : decode cX7_pattern 113 = .ok (.getfield 29, 3) := by decide +kernel
theorem dX7_pattern_116 : decode cX7_pattern 116 = .ok (.iconst 0, 1) := by decide +kernel
theorem dX7_pattern_117 : decode cX7_pattern 117 = .ok (.invokevirtual 180, 3) := by decide +kernel
theorem dX7_pattern_120 : decode cX7_pattern 120 = .ok (.ireturn, 1) := by decide +kernel
theorem dX7_pattern_121 : decode cX7_pattern 121 = .ok (.aload_n 0, 1) := by decide +kernel
theorem dX7_pattern_122 : decode cX7_pattern 122 = .ok (.getfield 29, 3) := by decide +kernel
theorem dX7_pattern_125 : decode cX7_pattern 125 = .ok (.invokevirtual 183, 3) := by decide +kernel
theorem dX7_pattern_128 : decode cX7_pattern 128 = .ok (.ireturn, 1) := by decide +kernel
theorem dX7_pattern_129 : decode cX7_pattern 129 = .ok (.aload_n 0, 1) := by decide +kernel
theorem dX7_pattern_130 : decode cX7_pattern 130 = .ok (.getfield 29, 3) := by decide +kernel
theorem dX7_pattern_133 : decode cX7_pattern 133 = .ok (.invokevirtual 174, 3) := by decide +kernel
theorem dX7_pattern_136 : decode cX7_pattern 136 = .ok (.aload_n 0, 1) := by decide +kernel
theorem dX7_pattern_137 : decode cX7_pattern 137 = .ok (.getfield 29, 3) := by decide +kernel
theorem dX7_pattern_140 : decode cX7_pattern 140 = .ok (.invokevirtual 173, 3) := by decide +kernel
theorem dX7_pattern_143 : decode cX7_pattern 143 = .ok (.invokestatic 186, 3) := by decide +kernel
theorem dX7_pattern_146 : decode cX7_pattern 146 = .ok (.if_icmp .ne 7, 3) := by decide +kernel
theorem dX7_pattern_149 : decode cX7_pattern 149 = .ok (.iconst 1, 1) := by decide +kernel
theorem dX7_pattern_150 : decode cX7_pattern 150 = .ok (.goto 4, 3) := by decide +kernel
theorem dX7_pattern_153 : decode cX7_pattern 153 = .ok (.iconst 0, 1) := by decide +kernel
theorem dX7_pattern_154 : decode cX7_pattern 154 = .ok (.invokestatic 143, 3) := by decide +kernel
theorem dX7_pattern_157 : decode cX7_pattern 157 = .ok (.ireturn, 1) := by decide +kernel
theorem dX7_pattern_158 : decode cX7_pattern 158 = .ok (.iload_n 2, 1) := by decide +kernel
theorem dX7_pattern_159 : decode cX7_pattern 159 = .ok (.invokestatic 143, 3) := by decide +kernel
theorem dX7_pattern_162 : decode cX7_pattern 162 = .ok (.ireturn, 1) := by decide +kernel
theorem dX7_back_0 : decode cX7_back 0 = .ok (.aload_n 0, 1) := by decide +kernel
theorem dX7_back_1 : decode cX7_back 1 = .ok (.getfield 29, 3) := by decide +kernel
theorem dX7_back_4 : decode cX7_back 4 = .ok (.aload_n 0, 1) := by decide +kernel
theorem dX7_back_5 : decode cX7_back 5 = .ok (.getfield 22, 3) := by decide +kernel
theorem dX7_back_8 : decode cX7_back 8 = .ok (.invokevirtual 166, 3) := by decide +kernel
theorem dX7_back_11 : decode cX7_back 11 = .ok (.ifCond .ne 6, 3) := by decide +kernel
theorem dX7_back_14 : decode cX7_back 14 = .ok (.bipush (-3), 2) := by decide +kernel
theorem dX7_back_16 : decode cX7_back 16 = .ok (.ireturn, 1) := by decide +kernel
theorem dX7_back_17 : decode cX7_back 17 = .ok (.iload_n 1, 1) := by decide +kernel
theorem dX7_back_18 : decode cX7_back 18 = .ok (.iconst 0, 1) := by decide +kernel
theorem dX7_back_19 : decode cX7_back 19 = .ok (.aload_n 0, 1) := by decide +kernel
theorem dX7_back_20 : decode cX7_back 20 = .ok (.getfield 29, 3) := by decide +kernel
theorem dX7_back_23 : decode cX7_back 23 = .ok (.getfield 189, 3) := by decide +kernel
theorem dX7_back_26 : decode cX7_back 26 = .ok (.iconst 1, 1) := by decide +kernel
theorem dX7_back_27 : decode cX7_back 27 = .ok (.isub, 1) := by decide +kernel
theorem dX7_back_28 : decode cX7_back 28 = .ok (.invokestatic 57, 3) := by decide +kernel
theorem dX7_back_31 : decode cX7_back 31 = .ok (.ifCond .ne 5, 3) := by decide +kernel
theorem dX7_back_34 : decode cX7_back 34 = .ok (.iconst (-1), 1) := by decide +kernel
theorem dX7_back_35 : decode cX7_back 35 = .ok (.ireturn, 1) := by decide +kernel
theorem dX7_back_36 : decode cX7_back 36 = .ok (.aload_n 0, 1) := by decide +kernel
theorem dX7_back_37 : decode cX7_back 37 = .ok (.getfield 29, 3) := by decide +kernel
theorem dX7_back_40 : decode cX7_back 40 = .ok (.invokevirtual 169, 3) := by decide +kernel
theorem dX7_back_43 : decode cX7_back 43 = .ok (.ifCond .ne 6, 3) := by decide +kernel
theorem dX7_back_46 : decode cX7_back 46 = .ok (.bipush (-5), 2) := by decide +kernel
theorem dX7_back_48 : decode cX7_back 48 = .ok (.ireturn, 1) := by decide +kernel
theorem dX7_back_49 : decode cX7_back 49 = .ok (.aload_n 0, 1) := by decide +kernel
theorem dX7_back_50 : decode cX7_back 50 = .ok (.getfield 29, 3) := by decide +kernel
theorem dX7_back_53 : decode cX7_back 53 = .ok (.iload_n 1, 1) := by decide +kernel
theorem dX7_back_54 : decode cX7_back 54 = .ok (.invokevirtual 190, 3) := by decide +kernel
theorem dX7_back_57 : decode cX7_back 57 = .ok (.ireturn, 1) := by decide +kernel
theorem dX7_way_0 : decode cX7_way 0 = .ok (.iload_n 1, 1) := by decide +kernel
theorem dX7_way_1 : decode cX7_way 1 = .ok (.invokestatic 101, 3) := by decide +kernel
theorem dX7_way_4 : decode cX7_way 4 = .ok (.ifCond .ne 5, 3) := by decide +kernel
theorem dX7_way_7 : decode cX7_way 7 = .ok (.iconst (-1), 1) := by decide +kernel
theorem dX7_way_8 : decode cX7_way 8 = .ok (.ireturn, 1) := by decide +kernel
theorem dX7_way_9 : decode cX7_way 9 = .ok (.iload_n 2, 1) := by decide +kernel
theorem dX7_way_10 : decode cX7_way 10 = .ok (.iconst 0, 1) := by decide +kernel
theorem dX7_way_11 : decode cX7_way 11 = .ok (.sipush 255, 3) := by decide +kernel
theorem dX7_way_14 : decode cX7_way 14 = .ok (.invokestatic 57, 3) := by decide +kernel
theorem dX7_way_17 : decode cX7_way 17 = .ok (.ifCond .eq 12, 3) := by decide +kernel
theorem dX7_way_20 : decode cX7_way 20 = .ok (.iload_n 3, 1) := by decide +kernel
theorem dX7_way_21 : decode cX7_way 21 = .ok (.iconst 0, 1) := by decide +kernel
theorem dX7_way_22 : decode cX7_way 22 = .ok (.iconst 2, 1) := by decide +kernel
theorem dX7_way_23 : decode cX7_way 23 = .ok (.invokestatic 57, 3) := by decide +kernel
theorem dX7_way_26 : decode cX7_way 26 = .ok (.ifCond .ne 6, 3) := by decide +kernel
theorem dX7_way_29 : decode cX7_way 29 = .ok (.bipush (-2), 2) := by decide +kernel
theorem dX7_way_31 : decode cX7_way 31 = .ok (.ireturn, 1) := by decide +kernel
theorem dX7_way_32 : decode cX7_way 32 = .ok (.aload_n 0, 1) := by decide +kernel
theorem dX7_way_33 : decode cX7_way 33 = .ok (.getfield 36, 3) := by decide +kernel
theorem dX7_way_36 : decode cX7_way 36 = .ok (.aload_n 0, 1) := by decide +kernel
theorem dX7_way_37 : decode cX7_way 37 = .ok (.getfield 12, 3) := by decide +kernel
theorem dX7_way_40 : decode cX7_way 40 = .ok (.iload_n 1, 1) := by decide +kernel
theorem dX7_way_41 : decode cX7_way 41 = .ok (.invokevirtual 80, 3) := by decide +kernel
theorem dX7_way_44 : decode cX7_way 44 = .ok (.getfield 121, 3) := by decide +kernel
theorem dX7_way_47 : decode cX7_way 47 = .ok (.invokevirtual 193, 3) := by decide +kernel
theorem dX7_way_50 : decode cX7_way 50 = .ok (.aload_n 0, 1) := by decide +kernel
theorem dX7_way_51 : decode cX7_way 51 = .ok (.getfield 36, 3) := by decide +kernel
theorem dX7_way_54 : decode cX7_way 54 = .ok (.iload_n 2, 1) := by decide +kernel
theorem dX7_way_55 : decode cX7_way 55 = .ok (.invokevirtual 196, 3) := by decide +kernel
theorem dX7_way_58 : decode cX7_way 58 = .ok (.istore 4, 2) := by decide +kernel
theorem dX7_way_60 : decode cX7_way 60 = .ok (.iload 4, 2) := by decide +kernel
theorem dX7_way_62 : decode cX7_way 62 = .ok (.iconst (-1), 1) := by decide +kernel
theorem dX7_way_63 : decode cX7_way 63 = .ok (.if_icmp .ne 6, 3) := by decide +kernel
theorem dX7_way_66 : decode cX7_way 66 = .ok (.bipush (-5), 2) := by decide +kernel
theorem dX7_way_68 : decode cX7_way 68 = .ok (.ireturn, 1) := by decide +kernel
theorem dX7_way_69 : decode cX7_way 69 = .ok (.iload_n 3, 1) := by decide +kernel
theorem dX7_way_70 : decode cX7_way 70 = .ok (.ifCond .ne 6, 3) := by decide +kernel
theorem dX7_way_73 : decode cX7_way 73 = .ok (.iload 4, 2) := by decide +kernel
theorem dX7_way_75 : decode cX7_way 75 = .ok (.ireturn, 1) := by decide +kernel
theorem dX7_way_76 : decode cX7_way 76 = .ok (.iload 4, 2) := by decide +kernel
theorem dX7_way_78 : decode cX7_way 78 = .ok (.ifCond .ne 6, 3) := by decide +kernel
theorem dX7_way_81 : decode cX7_way 81 = .ok (.bipush (-6), 2) := by decide +kernel
theorem dX7_way_83 : decode cX7_way 83 = .ok (.ireturn, 1) := by decide +kernel
theorem dX7_way_84 : decode cX7_way 84 = .ok (.iload_n 3, 1) := by decide +kernel
theorem dX7_way_85 : decode cX7_way 85 = .ok (.iconst 1, 1) := by decide +kernel
theorem dX7_way_86 : decode cX7_way 86 = .ok (.if_icmp .ne 14, 3) := by decide +kernel
theorem dX7_way_89 : decode cX7_way 89 = .ok (.aload_n 0, 1) := by decide +kernel
theorem dX7_way_90 : decode cX7_way 90 = .ok (.getfield 36, 3) := by decide +kernel
theorem dX7_way_93 : decode cX7_way 93 = .ok (.iload_n 2, 1) := by decide +kernel
theorem dX7_way_94 : decode cX7_way 94 = .ok (.invokevirtual 199, 3) := by decide +kernel
theorem dX7_way_97 : decode cX7_way 97 = .ok (.goto 11, 3) := by decide +kernel
theorem dX7_way_100 : decode cX7_way 100 = .ok (.aload_n 0, 1) := by decide +kernel
theorem dX7_way_101 : decode cX7_way 101 = .ok (.getfield 36, 3) := by decide +kernel
theorem dX7_way_104 : decode cX7_way 104 = .ok (.iload_n 2, 1) := by decide +kernel
theorem dX7_way_105 : decode cX7_way 105 = .ok (.invokevirtual 202, 3) := by decide +kernel
theorem dX7_way_108 : decode cX7_way 108 = .ok (.ireturn, 1) := by decide +kernel
theorem dX7_howMany_0 : decode cX7_howMany 0 = .ok (.iload_n 1, 1) := by decide +kernel
theorem dX7_howMany_1 : decode cX7_howMany 1 = .ok (.iconst 1, 1) := by decide +kernel
theorem dX7_howMany_2 : decode cX7_howMany 2 = .ok (.iconst 5, 1) := by decide +kernel
theorem dX7_howMany_3 : decode cX7_howMany 3 = .ok (.invokestatic 57, 3) := by decide +kernel
theorem dX7_howMany_6 : decode cX7_howMany 6 = .ok (.ifCond .eq 13, 3) := by decide +kernel
theorem dX7_howMany_9 : decode cX7_howMany 9 = .ok (.iload_n 2, 1) := by decide +kernel
theorem dX7_howMany_10 : decode cX7_howMany 10 = .ok (.iconst 0, 1) := by decide +kernel
theorem dX7_howMany_11 : decode cX7_howMany 11 = .ok (.bipush 7, 2) := by decide +kernel
theorem dX7_howMany_13 : decode cX7_howMany 13 = .ok (.invokestatic 57, 3) := by decide +kernel
theorem dX7_howMany_16 : decode cX7_howMany 16 = .ok (.ifCond .ne 6, 3) := by decide +kernel
theorem dX7_howMany_19 : decode cX7_howMany 19 = .ok (.bipush (-2), 2) := by decide +kernel
theorem dX7_howMany_21 : decode cX7_howMany 21 = .ok (.ireturn, 1) := by decide +kernel
theorem dX7_howMany_22 : decode cX7_howMany 22 = .ok (.iload_n 1, 1) := by decide +kernel
theorem dX7_howMany_23 : decode cX7_howMany 23 = .ok (.iconst 0, 1) := by decide +kernel
theorem dX7_howMany_24 : decode cX7_howMany 24 = .ok (.iconst 0, 1) := by decide +kernel
theorem dX7_howMany_25 : decode cX7_howMany 25 = .ok (.iload_n 1, 1) := by decide +kernel
theorem dX7_howMany_26 : decode cX7_howMany 26 = .ok (.iload_n 2, 1) := by decide +kernel
theorem dX7_howMany_27 : decode cX7_howMany 27 = .ok (.imul, 1) := by decide +kernel
theorem dX7_howMany_28 : decode cX7_howMany 28 = .ok (.invokestatic 205, 3) := by decide +kernel
theorem dX7_howMany_31 : decode cX7_howMany 31 = .ok (.ireturn, 1) := by decide +kernel
theorem dX7_put_0 : decode cX7_put 0 = .ok (.lload_n 1, 1) := by decide +kernel
theorem dX7_put_1 : decode cX7_put 1 = .ok (.invokestatic 209, 3) := by decide +kernel
theorem dX7_put_4 : decode cX7_put 4 = .ok (.istore_n 3, 1) := by decide +kernel
theorem dX7_put_5 : decode cX7_put 5 = .ok (.iload_n 3, 1) := by decide +kernel
theorem dX7_put_6 : decode cX7_put 6 = .ok (.ifCond .ne 6, 3) := by decide +kernel
theorem dX7_put_9 : decode cX7_put 9 = .ok (.bipush (-2), 2) := by decide +kernel
theorem dX7_put_11 : decode cX7_put 11 = .ok (.ireturn, 1) := by decide +kernel
theorem dX7_put_12 : decode cX7_put 12 = .ok (.aload_n 0, 1) := by decide +kernel
theorem dX7_put_13 : decode cX7_put 13 = .ok (.getfield 22, 3) := by decide +kernel
theorem dX7_put_16 : decode cX7_put 16 = .ok (.getfield 153, 3) := by decide +kernel
theorem dX7_put_19 : decode cX7_put 19 = .ok (.iload_n 3, 1) := by decide +kernel
theorem dX7_put_20 : decode cX7_put 20 = .ok (.iadd, 1) := by decide +kernel
theorem dX7_put_21 : decode cX7_put 21 = .ok (.bipush 30, 2) := by decide +kernel
theorem dX7_put_23 : decode cX7_put 23 = .ok (.if_icmp .le 6, 3) := by decide +kernel
theorem dX7_put_26 : decode cX7_put 26 = .ok (.bipush (-4), 2) := by decide +kernel
theorem dX7_put_28 : decode cX7_put 28 = .ok (.ireturn, 1) := by decide +kernel
theorem dX7_put_29 : decode cX7_put 29 = .ok (.iload_n 3, 1) := by decide +kernel
theorem dX7_put_30 : decode cX7_put 30 = .ok (.iconst 1, 1) := by decide +kernel
theorem dX7_put_31 : decode cX7_put 31 = .ok (.isub, 1) := by decide +kernel
theorem dX7_put_32 : decode cX7_put 32 = .ok (.istore 4, 2) := by decide +kernel
theorem dX7_put_34 : decode cX7_put 34 = .ok (.iload 4, 2) := by decide +kernel
theorem dX7_put_36 : decode cX7_put 36 = .ok (.ifCond .lt 28, 3) := by decide +kernel
theorem dX7_put_39 : decode cX7_put 39 = .ok (.aload_n 0, 1) := by decide +kernel
theorem dX7_put_40 : decode cX7_put 40 = .ok (.getfield 22, 3) := by decide +kernel
theorem dX7_put_43 : decode cX7_put 43 = .ok (.lload_n 1, 1) := by decide +kernel
theorem dX7_put_44 : decode cX7_put 44 = .ok (.bipush 8, 2) := by decide +kernel
theorem dX7_put_46 : decode cX7_put 46 = .ok (.iload 4, 2) := by decide +kernel
theorem dX7_put_48 : decode cX7_put 48 = .ok (.imul, 1) := by decide +kernel
theorem dX7_put_49 : decode cX7_put 49 = .ok (.lushr, 1) := by decide +kernel
theorem dX7_put_50 : decode cX7_put 50 = .ok (.l2i, 1) := by decide +kernel
theorem dX7_put_51 : decode cX7_put 51 = .ok (.sipush 255, 3) := by decide +kernel
theorem dX7_put_54 : decode cX7_put 54 = .ok (.iand, 1) := by decide +kernel
theorem dX7_put_55 : decode cX7_put 55 = .ok (.invokevirtual 213, 3) := by decide +kernel
theorem dX7_put_58 : decode cX7_put 58 = .ok (.iinc 4 (-1), 3) := by decide +kernel
theorem dX7_put_61 : decode cX7_put 61 = .ok (.goto (-27), 3) := by decide +kernel
theorem dX7_put_64 : decode cX7_put 64 = .ok (.aload_n 0, 1) := by decide +kernel
theorem dX7_put_65 : decode cX7_put 65 = .ok (.getfield 22, 3) := by decide +kernel
theorem dX7_put_68 : decode cX7_put 68 = .ok (.getfield 153, 3) := by decide +kernel
theorem dX7_put_71 : decode cX7_put 71 = .ok (.ireturn, 1) := by decide +kernel
theorem dX7_wipe_0 : decode cX7_wipe 0 = .ok (.aload_n 0, 1) := by decide +kernel
theorem dX7_wipe_1 : decode cX7_wipe 1 = .ok (.getfield 22, 3) := by decide +kernel
theorem dX7_wipe_4 : decode cX7_wipe 4 = .ok (.getfield 153, 3) := by decide +kernel
theorem dX7_wipe_7 : decode cX7_wipe 7 = .ok (.istore_n 1, 1) := by decide +kernel
theorem dX7_wipe_8 : decode cX7_wipe 8 = .ok (.aload_n 0, 1) := by decide +kernel
theorem dX7_wipe_9 : decode cX7_wipe 9 = .ok (.getfield 22, 3) := by decide +kernel
theorem dX7_wipe_12 : decode cX7_wipe 12 = .ok (.invokevirtual 90, 3) := by decide +kernel
theorem dX7_wipe_15 : decode cX7_wipe 15 = .ok (.iload_n 1, 1) := by decide +kernel
theorem dX7_wipe_16 : decode cX7_wipe 16 = .ok (.ireturn, 1) := by decide +kernel
theorem dX7_fault_0 : decode cX7_fault 0 = .ok (.aload_n 0, 1) := by decide +kernel
theorem dX7_fault_1 : decode cX7_fault 1 = .ok (.getfield 22, 3) := by decide +kernel
theorem dX7_fault_4 : decode cX7_fault 4 = .ok (.invokevirtual 73, 3) := by decide +kernel
theorem dX7_fault_7 : decode cX7_fault 7 = .ok (.ireturn, 1) := by decide +kernel
theorem dX7_undo_0 : decode cX7_undo 0 = .ok (.aload_n 0, 1) := by decide +kernel
theorem dX7_undo_1 : decode cX7_undo 1 = .ok (.getfield 43, 3) := by decide +kernel
theorem dX7_undo_4 : decode cX7_undo 4 = .ok (.getfield 156, 3) := by decide +kernel
theorem dX7_undo_7 : decode cX7_undo 7 = .ok (.ifCond .ne 6, 3) := by decide +kernel
theorem dX7_undo_10 : decode cX7_undo 10 = .ok (.bipush (-5), 2) := by decide +kernel
theorem dX7_undo_12 : decode cX7_undo 12 = .ok (.ireturn, 1) := by decide +kernel
theorem dX7_undo_13 : decode cX7_undo 13 = .ok (.aload_n 0, 1) := by decide +kernel
theorem dX7_undo_14 : decode cX7_undo 14 = .ok (.getfield 43, 3) := by decide +kernel
theorem dX7_undo_17 : decode cX7_undo 17 = .ok (.aload_n 0, 1) := by decide +kernel
theorem dX7_undo_18 : decode cX7_undo 18 = .ok (.getfield 12, 3) := by decide +kernel
theorem dX7_undo_21 : decode cX7_undo 21 = .ok (.invokevirtual 216, 3) := by decide +kernel
theorem dX7_undo_24 : decode cX7_undo 24 = .ok (.aload_n 0, 1) := by decide +kernel
theorem dX7_undo_25 : decode cX7_undo 25 = .ok (.getfield 43, 3) := by decide +kernel
theorem dX7_undo_28 : decode cX7_undo 28 = .ok (.getfield 156, 3) := by decide +kernel
theorem dX7_undo_31 : decode cX7_undo 31 = .ok (.ireturn, 1) := by decide +kernel
theorem dX7_isWithin_0 : decode cX7_isWithin 0 = .ok (.iload_n 0, 1) := by decide +kernel
theorem dX7_isWithin_1 : decode cX7_isWithin 1 = .ok (.iload_n 1, 1) := by decide +kernel
theorem dX7_isWithin_2 : decode cX7_isWithin 2 = .ok (.if_icmp .lt 12, 3) := by decide +kernel
theorem dX7_isWithin_5 : decode cX7_isWithin 5 = .ok (.iload_n 0, 1) := by decide +kernel
theorem dX7_isWithin_6 : decode cX7_isWithin 6 = .ok (.iload_n 2, 1) := by decide +kernel
theorem dX7_isWithin_7 : decode cX7_isWithin 7 = .ok (.if_icmp .gt 7, 3) := by decide +kernel
theorem dX7_isWithin_10 : decode cX7_isWithin 10 = .ok (.iconst 1, 1) := by decide +kernel
theorem dX7_isWithin_11 : decode cX7_isWithin 11 = .ok (.goto 4, 3) := by decide +kernel
theorem dX7_isWithin_14 : decode cX7_isWithin 14 = .ok (.iconst 0, 1) := by decide +kernel
theorem dX7_isWithin_15 : decode cX7_isWithin 15 = .ok (.ireturn, 1) := by decide +kernel
theorem dX7_isJuggler_0 : decode cX7_isJuggler 0 = .ok (.iload_n 0, 1) := by decide +kernel
theorem dX7_isJuggler_1 : decode cX7_isJuggler 1 = .ok (.iconst 0, 1) := by decide +kernel
theorem dX7_isJuggler_2 : decode cX7_isJuggler 2 = .ok (.iconst 1, 1) := by decide +kernel
theorem dX7_isJuggler_3 : decode cX7_isJuggler 3 = .ok (.invokestatic 57, 3) := by decide +kernel
theorem dX7_isJuggler_6 : decode cX7_isJuggler 6 = .ok (.ireturn, 1) := by decide +kernel
theorem dX7_isBeat_0 : decode cX7_isBeat 0 = .ok (.iload_n 0, 1) := by decide +kernel
theorem dX7_isBeat_1 : decode cX7_isBeat 1 = .ok (.iconst 0, 1) := by decide +kernel
theorem dX7_isBeat_2 : decode cX7_isBeat 2 = .ok (.bipush 7, 2) := by decide +kernel
theorem dX7_isBeat_4 : decode cX7_isBeat 4 = .ok (.invokestatic 57, 3) := by decide +kernel
theorem dX7_isBeat_7 : decode cX7_isBeat 7 = .ok (.ireturn, 1) := by decide +kernel
theorem dX7_oneIf_0 : decode cX7_oneIf 0 = .ok (.iload_n 0, 1) := by decide +kernel
theorem dX7_oneIf_1 : decode cX7_oneIf 1 = .ok (.ifCond .eq 7, 3) := by decide +kernel
theorem dX7_oneIf_4 : decode cX7_oneIf 4 = .ok (.iconst 1, 1) := by decide +kernel
theorem dX7_oneIf_5 : decode cX7_oneIf 5 = .ok (.goto 4, 3) := by decide +kernel
theorem dX7_oneIf_8 : decode cX7_oneIf 8 = .ok (.iconst 0, 1) := by decide +kernel
theorem dX7_oneIf_9 : decode cX7_oneIf 9 = .ok (.ireturn, 1) := by decide +kernel
theorem dX7_firstBeats_0 : decode cX7_firstBeats 0 = .ok (.iconst 1, 1) := by decide +kernel
theorem dX7_firstBeats_1 : decode cX7_firstBeats 1 = .ok (.iload_n 0, 1) := by decide +kernel
theorem dX7_firstBeats_2 : decode cX7_firstBeats 2 = .ok (.ishl, 1) := by decide +kernel
theorem dX7_firstBeats_3 : decode cX7_firstBeats 3 = .ok (.iconst 1, 1) := by decide +kernel
theorem dX7_firstBeats_4 : decode cX7_firstBeats 4 = .ok (.isub, 1) := by decide +kernel
theorem dX7_firstBeats_5 : decode cX7_firstBeats 5 = .ok (.ireturn, 1) := by decide +kernel
theorem dX7_has_0 : decode cX7_has 0 = .ok (.iload_n 0, 1) := by decide +kernel
theorem dX7_has_1 : decode cX7_has 1 = .ok (.iload_n 1, 1) := by decide +kernel
theorem dX7_has_2 : decode cX7_has 2 = .ok (.ishr, 1) := by decide +kernel
theorem dX7_has_3 : decode cX7_has 3 = .ok (.iconst 1, 1) := by decide +kernel
theorem dX7_has_4 : decode cX7_has 4 = .ok (.iand, 1) := by decide +kernel
theorem dX7_has_5 : decode cX7_has 5 = .ok (.ifCond .eq 7, 3) := by decide +kernel
theorem dX7_has_8 : decode cX7_has 8 = .ok (.iconst 1, 1) := by decide +kernel
theorem dX7_has_9 : decode cX7_has 9 = .ok (.goto 4, 3) := by decide +kernel
theorem dX7_has_12 : decode cX7_has 12 = .ok (.iconst 0, 1) := by decide +kernel
theorem dX7_has_13 : decode cX7_has 13 = .ok (.ireturn, 1) := by decide +kernel
theorem dX7_valueAt_0 : decode cX7_valueAt 0 = .ok (.iload_n 1, 1) := by decide +kernel
theorem dX7_valueAt_1 : decode cX7_valueAt 1 = .ok (.ifCond .lt 15, 3) := by decide +kernel
theorem dX7_valueAt_4 : decode cX7_valueAt 4 = .ok (.iload_n 1, 1) := by decide +kernel
theorem dX7_valueAt_5 : decode cX7_valueAt 5 = .ok (.aload_n 0, 1) := by decide +kernel
theorem dX7_valueAt_6 : decode cX7_valueAt 6 = .ok (.arraylength, 1) := by decide +kernel
theorem dX7_valueAt_7 : decode cX7_valueAt 7 = .ok (.if_icmp .ge 9, 3) := by decide +kernel
theorem dX7_valueAt_10 : decode cX7_valueAt 10 = .ok (.aload_n 0, 1) := by decide +kernel
theorem dX7_valueAt_11 : decode cX7_valueAt 11 = .ok (.iload_n 1, 1) := by decide +kernel
theorem dX7_valueAt_12 : decode cX7_valueAt 12 = .ok (.iaload, 1) := by decide +kernel
theorem dX7_valueAt_13 : decode cX7_valueAt 13 = .ok (.goto 4, 3) := by decide +kernel
theorem dX7_valueAt_16 : decode cX7_valueAt 16 = .ok (.iconst 0, 1) := by decide +kernel
theorem dX7_valueAt_17 : decode cX7_valueAt 17 = .ok (.ireturn, 1) := by decide +kernel
theorem dX7_setAt_0 : decode cX7_setAt 0 = .ok (.iload_n 1, 1) := by decide +kernel
theorem dX7_setAt_1 : decode cX7_setAt 1 = .ok (.ifCond .lt 13, 3) := by decide +kernel
theorem dX7_setAt_4 : decode cX7_setAt 4 = .ok (.iload_n 1, 1) := by decide +kernel
theorem dX7_setAt_5 : decode cX7_setAt 5 = .ok (.aload_n 0, 1) := by decide +kernel
theorem dX7_setAt_6 : decode cX7_setAt 6 = .ok (.arraylength, 1) := by decide +kernel
theorem dX7_setAt_7 : decode cX7_setAt 7 = .ok (.if_icmp .ge 7, 3) := by decide +kernel
theorem dX7_setAt_10 : decode cX7_setAt 10 = .ok (.aload_n 0, 1) := by decide +kernel
theorem dX7_setAt_11 : decode cX7_setAt 11 = .ok (.iload_n 1, 1) := by decide +kernel
theorem dX7_setAt_12 : decode cX7_setAt 12 = .ok (.iload_n 2, 1) := by decide +kernel
theorem dX7_setAt_13 : decode cX7_setAt 13 = .ok (.iastore, 1) := by decide +kernel
theorem dX7_setAt_14 : decode cX7_setAt 14 = .ok (.return_, 1) := by decide +kernel
theorem dX7_leftOver_0 : decode cX7_leftOver 0 = .ok (.iload_n 1, 1) := by decide +kernel
theorem dX7_leftOver_1 : decode cX7_leftOver 1 = .ok (.ifCond .le 11, 3) := by decide +kernel
theorem dX7_leftOver_4 : decode cX7_leftOver 4 = .ok (.iload_n 0, 1) := by decide +kernel
theorem dX7_leftOver_5 : decode cX7_leftOver 5 = .ok (.iload_n 1, 1) := by decide +kernel
theorem dX7_leftOver_6 : decode cX7_leftOver 6 = .ok (.invokestatic 236, 3) := by decide +kernel
theorem dX7_leftOver_9 : decode cX7_leftOver 9 = .ok (.goto 4, 3) := by decide +kernel
theorem dX7_leftOver_12 : decode cX7_leftOver 12 = .ok (.iconst 0, 1) := by decide +kernel
theorem dX7_leftOver_13 : decode cX7_leftOver 13 = .ok (.ireturn, 1) := by decide +kernel
theorem dX7_isHeight_0 : decode cX7_isHeight 0 = .ok (.iload_n 0, 1) := by decide +kernel
theorem dX7_isHeight_1 : decode cX7_isHeight 1 = .ok (.bipush 48, 2) := by decide +kernel
theorem dX7_isHeight_3 : decode cX7_isHeight 3 = .ok (.bipush 55, 2) := by decide +kernel
theorem dX7_isHeight_5 : decode cX7_isHeight 5 = .ok (.invokestatic 57, 3) := by decide +kernel
theorem dX7_isHeight_8 : decode cX7_isHeight 8 = .ok (.ireturn, 1) := by decide +kernel
theorem dX7_packedCharacters_0 : decode cX7_packedCharacters 0 = .ok (.iconst 0, 1) := by decide +kernel
theorem dX7_packedCharacters_1 : decode cX7_packedCharacters 1 = .ok (.istore_n 2, 1) := by decide +kernel
theorem dX7_packedCharacters_2 : decode cX7_packedCharacters 2 = .ok (.lload_n 0, 1) := by decide +kernel
theorem dX7_packedCharacters_3 : decode cX7_packedCharacters 3 = .ok (.lstore_n 3, 1) := by decide +kernel
theorem dX7_packedCharacters_4 : decode cX7_packedCharacters 4 = .ok (.iload_n 2, 1) := by decide +kernel
theorem dX7_packedCharacters_5 : decode cX7_packedCharacters 5 = .ok (.bipush 8, 2) := by decide +kernel
theorem dX7_packedCharacters_7 : decode cX7_packedCharacters 7 = .ok (.if_icmp .ge 38, 3) := by decide +kernel
theorem dX7_packedCharacters_10 : decode cX7_packedCharacters 10 = .ok (.lload_n 3, 1) := by decide +kernel
theorem dX7_packedCharacters_11 : decode cX7_packedCharacters 11 = .ok (.lconst 0, 1) := by decide +kernel
theorem dX7_packedCharacters_12 : decode cX7_packedCharacters 12 = .ok (.lcmp, 1) := by decide +kernel
theorem dX7_packedCharacters_13 : decode cX7_packedCharacters 13 = .ok (.ifCond .eq 32, 3) := by decide +kernel
theorem dX7_packedCharacters_16 : decode cX7_packedCharacters 16 = .ok (.lload_n 3, 1) := by decide +kernel
theorem dX7_packedCharacters_17 : decode cX7_packedCharacters 17 = .ok (.ldc2_w 242, 3) := by decide +kernel
theorem dX7_packedCharacters_20 : decode cX7_packedCharacters 20 = .ok (.land, 1) := by decide +kernel
theorem dX7_packedCharacters_21 : decode cX7_packedCharacters 21 = .ok (.l2i, 1) := by decide +kernel
theorem dX7_packedCharacters_22 : decode cX7_packedCharacters 22 = .ok (.bipush 33, 2) := by decide +kernel
theorem dX7_packedCharacters_24 : decode cX7_packedCharacters 24 = .ok (.bipush 126, 2) := by decide +kernel
theorem dX7_packedCharacters_26 : decode cX7_packedCharacters 26 = .ok (.invokestatic 57, 3) := by decide +kernel
theorem dX7_packedCharacters_29 : decode cX7_packedCharacters 29 = .ok (.ifCond .ne 5, 3) := by decide +kernel
theorem dX7_packedCharacters_32 : decode cX7_packedCharacters 32 = .ok (.iconst 0, 1) := by decide +kernel
theorem dX7_packedCharacters_33 : decode cX7_packedCharacters 33 = .ok (.ireturn, 1) := by decide +kernel
theorem dX7_packedCharacters_34 : decode cX7_packedCharacters 34 = .ok (.lload_n 3, 1) := by decide +kernel
theorem dX7_packedCharacters_35 : decode cX7_packedCharacters 35 = .ok (.bipush 8, 2) := by decide +kernel
theorem dX7_packedCharacters_37 : decode cX7_packedCharacters 37 = .ok (.lushr, 1) := by decide +kernel
theorem dX7_packedCharacters_38 : decode cX7_packedCharacters 38 = .ok (.lstore_n 3, 1) := by decide +kernel
theorem dX7_packedCharacters_39 : decode cX7_packedCharacters 39 = .ok (.iinc 2 1, 3) := by decide +kernel
theorem dX7_packedCharacters_42 : decode cX7_packedCharacters 42 = .ok (.goto (-38), 3) := by decide +kernel
theorem dX7_packedCharacters_45 : decode cX7_packedCharacters 45 = .ok (.iload_n 2, 1) := by decide +kernel
theorem dX7_packedCharacters_46 : decode cX7_packedCharacters 46 = .ok (.ireturn, 1) := by decide +kernel
