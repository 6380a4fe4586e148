theorem dX0_init_0 : decode cX0_init 0 = .ok (.aload_n 0, 1) := by decide +kernel
theorem dX0_init_1 : decode cX0_init 1 = .ok (.invokespecial 3, 3) := by decide +kernel
theorem dX0_init_4 : decode cX0_init 4 = .ok (.aload_n 0, 1) := by decide +kernel
theorem dX0_init_5 : decode cX0_init 5 = .ok (.bipush 60, 2) := by decide +kernel
theorem dX0_init_7 : decode cX0_init 7 = .ok (.newarray .int, 2) := by decide +kernel
theorem dX0_init_9 : decode cX0_init 9 = .ok (.putfield 9, 3) := by decide +kernel
theorem dX0_init_12 : decode cX0_init 12 = .ok (.return_, 1) := by decide +kernel
theorem dX1_init_0 : decode cX1_init 0 = .ok (.aload_n 0, 1) := by decide +kernel
theorem dX1_init_1 : decode cX1_init 1 = .ok (.invokespecial 3, 3) := by decide +kernel
theorem dX1_init_4 : decode cX1_init 4 = .ok (.aload_n 0, 1) := by decide +kernel
theorem dX1_init_5 : decode cX1_init 5 = .ok (.bipush 10, 2) := by decide +kernel
theorem dX1_init_7 : decode cX1_init 7 = .ok (.newarray .int, 2) := by decide +kernel
theorem dX1_init_9 : decode cX1_init 9 = .ok (.putfield 9, 3) := by decide +kernel
theorem dX1_init_12 : decode cX1_init 12 = .ok (.aload_n 0, 1) := by decide +kernel
theorem dX1_init_13 : decode cX1_init 13 = .ok (.bipush 10, 2) := by decide +kernel
theorem dX1_init_15 : decode cX1_init 15 = .ok (.newarray .int, 2) := by decide +kernel
theorem dX1_init_17 : decode cX1_init 17 = .ok (.putfield 15, 3) := by decide +kernel
theorem dX1_init_20 : decode cX1_init 20 = .ok (.aload_n 0, 1) := by decide +kernel
theorem dX1_init_21 : decode cX1_init 21 = .ok (.bipush 10, 2) := by decide +kernel
theorem dX1_init_23 : decode cX1_init 23 = .ok (.newarray .int, 2) := by decide +kernel
theorem dX1_init_25 : decode cX1_init 25 = .ok (.putfield 18, 3) := by decide +kernel
theorem dX1_init_28 : decode cX1_init 28 = .ok (.return_, 1) := by decide +kernel
theorem dX2_init_0 : decode cX2_init 0 = .ok (.aload_n 0, 1) := by decide +kernel
theorem dX2_init_1 : decode cX2_init 1 = .ok (.invokespecial 3, 3) := by decide +kernel
theorem dX2_init_4 : decode cX2_init 4 = .ok (.aload_n 0, 1) := by decide +kernel
theorem dX2_init_5 : decode cX2_init 5 = .ok (.new 9, 3) := by decide +kernel
theorem dX2_init_8 : decode cX2_init 8 = .ok (.dup, 1) := by decide +kernel
theorem dX2_init_9 : decode cX2_init 9 = .ok (.invokespecial 11, 3) := by decide +kernel
theorem dX2_init_12 : decode cX2_init 12 = .ok (.putfield 12, 3) := by decide +kernel
theorem dX2_init_15 : decode cX2_init 15 = .ok (.aload_n 0, 1) := by decide +kernel
theorem dX2_init_16 : decode cX2_init 16 = .ok (.new 18, 3) := by decide +kernel
theorem dX2_init_19 : decode cX2_init 19 = .ok (.dup, 1) := by decide +kernel
theorem dX2_init_20 : decode cX2_init 20 = .ok (.invokespecial 20, 3) := by decide +kernel
theorem dX2_init_23 : decode cX2_init 23 = .ok (.putfield 21, 3) := by decide +kernel
theorem dX2_init_26 : decode cX2_init 26 = .ok (.aload_n 0, 1) := by decide +kernel
theorem dX2_init_27 : decode cX2_init 27 = .ok (.getstatic 25, 3) := by decide +kernel
theorem dX2_init_30 : decode cX2_init 30 = .ok (.invokevirtual 29, 3) := by decide +kernel
theorem dX2_init_33 : decode cX2_init 33 = .ok (.checkcast 30, 3) := by decide +kernel
theorem dX2_init_36 : decode cX2_init 36 = .ok (.putfield 34, 3) := by decide +kernel
theorem dX2_init_39 : decode cX2_init 39 = .ok (.return_, 1) := by decide +kernel
theorem dX2_copyFrom_0 : decode cX2_copyFrom 0 = .ok (.aload_n 0, 1) := by decide +kernel
theorem dX2_copyFrom_1 : decode cX2_copyFrom 1 = .ok (.getfield 12, 3) := by decide +kernel
theorem dX2_copyFrom_4 : decode cX2_copyFrom 4 = .ok (.aload_n 1, 1) := by decide +kernel
theorem dX2_copyFrom_5 : decode cX2_copyFrom 5 = .ok (.getfield 12, 3) := by decide +kernel
theorem dX2_copyFrom_8 : decode cX2_copyFrom 8 = .ok (.invokevirtual 37, 3) := by decide +kernel
theorem dX2_copyFrom_11 : decode cX2_copyFrom 11 = .ok (.aload_n 0, 1) := by decide +kernel
theorem dX2_copyFrom_12 : decode cX2_copyFrom 12 = .ok (.getfield 21, 3) := by decide +kernel
theorem dX2_copyFrom_15 : decode cX2_copyFrom 15 = .ok (.aload_n 1, 1) := by decide +kernel
theorem dX2_copyFrom_16 : decode cX2_copyFrom 16 = .ok (.getfield 21, 3) := by decide +kernel
theorem dX2_copyFrom_19 : decode cX2_copyFrom 19 = .ok (.invokevirtual 41, 3) := by decide +kernel
theorem dX2_copyFrom_22 : decode cX2_copyFrom 22 = .ok (.aload_n 1, 1) := by decide +kernel
theorem dX2_copyFrom_23 : decode cX2_copyFrom 23 = .ok (.getfield 34, 3) := by decide +kernel
theorem dX2_copyFrom_26 : decode cX2_copyFrom 26 = .ok (.iconst 0, 1) := by decide +kernel
theorem dX2_copyFrom_27 : decode cX2_copyFrom 27 = .ok (.aload_n 0, 1) := by decide +kernel
theorem dX2_copyFrom_28 : decode cX2_copyFrom 28 = .ok (.getfield 34, 3) := by decide +kernel
theorem dX2_copyFrom_31 : decode cX2_copyFrom 31 = .ok (.iconst 0, 1) := by decide +kernel
theorem dX2_copyFrom_32 : decode cX2_copyFrom 32 = .ok (.aload_n 0, 1) := by decide +kernel
theorem dX2_copyFrom_33 : decode cX2_copyFrom 33 = .ok (.getfield 34, 3) := by decide +kernel
theorem dX2_copyFrom_36 : decode cX2_copyFrom 36 = .ok (.arraylength, 1) := by decide +kernel
theorem dX2_copyFrom_37 : decode cX2_copyFrom 37 = .ok (.invokestatic 44, 3) := by decide +kernel
theorem dX2_copyFrom_40 : decode cX2_copyFrom 40 = .ok (.aload_n 0, 1) := by decide +kernel
theorem dX2_copyFrom_41 : decode cX2_copyFrom 41 = .ok (.aload_n 1, 1) := by decide +kernel
theorem dX2_copyFrom_42 : decode cX2_copyFrom 42 = .ok (.getfield 50, 3) := by decide +kernel
theorem dX2_copyFrom_45 : decode cX2_copyFrom 45 = .ok (.putfield 50, 3) := by decide +kernel
theorem dX2_copyFrom_48 : decode cX2_copyFrom 48 = .ok (.aload_n 0, 1) := by decide +kernel
theorem dX2_copyFrom_49 : decode cX2_copyFrom 49 = .ok (.aload_n 1, 1) := by decide +kernel
theorem dX2_copyFrom_50 : decode cX2_copyFrom 50 = .ok (.getfield 54, 3) := by decide +kernel
theorem dX2_copyFrom_53 : decode cX2_copyFrom 53 = .ok (.putfield 54, 3) := by decide +kernel
theorem dX2_copyFrom_56 : decode cX2_copyFrom 56 = .ok (.aload_n 0, 1) := by decide +kernel
theorem dX2_copyFrom_57 : decode cX2_copyFrom 57 = .ok (.aload_n 1, 1) := by decide +kernel
theorem dX2_copyFrom_58 : decode cX2_copyFrom 58 = .ok (.getfield 57, 3) := by decide +kernel
theorem dX2_copyFrom_61 : decode cX2_copyFrom 61 = .ok (.putfield 57, 3) := by decide +kernel
theorem dX2_copyFrom_64 : decode cX2_copyFrom 64 = .ok (.aload_n 0, 1) := by decide +kernel
theorem dX2_copyFrom_65 : decode cX2_copyFrom 65 = .ok (.aload_n 1, 1) := by decide +kernel
theorem dX2_copyFrom_66 : decode cX2_copyFrom 66 = .ok (.getfield 60, 3) := by decide +kernel
theorem dX2_copyFrom_69 : decode cX2_copyFrom 69 = .ok (.putfield 60, 3) := by decide +kernel
theorem dX2_copyFrom_72 : decode cX2_copyFrom 72 = .ok (.return_, 1) := by decide +kernel
theorem dX2_hasStarted_0 : decode cX2_hasStarted 0 = .ok (.aload_n 0, 1) := by decide +kernel
theorem dX2_hasStarted_1 : decode cX2_hasStarted 1 = .ok (.getfield 21, 3) := by decide +kernel
theorem dX2_hasStarted_4 : decode cX2_hasStarted 4 = .ok (.getfield 63, 3) := by decide +kernel
theorem dX2_hasStarted_7 : decode cX2_hasStarted 7 = .ok (.iload_n 1, 1) := by decide +kernel
theorem dX2_hasStarted_8 : decode cX2_hasStarted 8 = .ok (.iaload, 1) := by decide +kernel
theorem dX2_hasStarted_9 : decode cX2_hasStarted 9 = .ok (.aload_n 0, 1) := by decide +kernel
theorem dX2_hasStarted_10 : decode cX2_hasStarted 10 = .ok (.getfield 50, 3) := by decide +kernel
theorem dX2_hasStarted_13 : decode cX2_hasStarted 13 = .ok (.if_icmp .gt 7, 3) := by decide +kernel
theorem dX2_hasStarted_16 : decode cX2_hasStarted 16 = .ok (.iconst 1, 1) := by decide +kernel
theorem dX2_hasStarted_17 : decode cX2_hasStarted 17 = .ok (.goto 4, 3) := by decide +kernel
theorem dX2_hasStarted_20 : decode cX2_hasStarted 20 = .ok (.iconst 0, 1) := by decide +kernel
theorem dX2_hasStarted_21 : decode cX2_hasStarted 21 = .ok (.ireturn, 1) := by decide +kernel
theorem dX2_isAhead_0 : decode cX2_isAhead 0 = .ok (.aload_n 0, 1) := by decide +kernel
theorem dX2_isAhead_1 : decode cX2_isAhead 1 = .ok (.getfield 21, 3) := by decide +kernel
theorem dX2_isAhead_4 : decode cX2_isAhead 4 = .ok (.iload_n 1, 1) := by decide +kernel
theorem dX2_isAhead_5 : decode cX2_isAhead 5 = .ok (.invokevirtual 66, 3) := by decide +kernel
theorem dX2_isAhead_8 : decode cX2_isAhead 8 = .ok (.ifCond .eq 15, 3) := by decide +kernel
theorem dX2_isAhead_11 : decode cX2_isAhead 11 = .ok (.aload_n 0, 1) := by decide +kernel
theorem dX2_isAhead_12 : decode cX2_isAhead 12 = .ok (.iload_n 1, 1) := by decide +kernel
theorem dX2_isAhead_13 : decode cX2_isAhead 13 = .ok (.invokevirtual 70, 3) := by decide +kernel
theorem dX2_isAhead_16 : decode cX2_isAhead 16 = .ok (.ifCond .ne 7, 3) := by decide +kernel
theorem dX2_isAhead_19 : decode cX2_isAhead 19 = .ok (.iconst 1, 1) := by decide +kernel
theorem dX2_isAhead_20 : decode cX2_isAhead 20 = .ok (.goto 4, 3) := by decide +kernel
theorem dX2_isAhead_23 : decode cX2_isAhead 23 = .ok (.iconst 0, 1) := by decide +kernel
theorem dX2_isAhead_24 : decode cX2_isAhead 24 = .ok (.ireturn, 1) := by decide +kernel
theorem dX2_isUnderWay_0 : decode cX2_isUnderWay 0 = .ok (.aload_n 0, 1) := by decide +kernel
theorem dX2_isUnderWay_1 : decode cX2_isUnderWay 1 = .ok (.getfield 21, 3) := by decide +kernel
theorem dX2_isUnderWay_4 : decode cX2_isUnderWay 4 = .ok (.iload_n 1, 1) := by decide +kernel
theorem dX2_isUnderWay_5 : decode cX2_isUnderWay 5 = .ok (.invokevirtual 66, 3) := by decide +kernel
theorem dX2_isUnderWay_8 : decode cX2_isUnderWay 8 = .ok (.ifCond .eq 15, 3) := by decide +kernel
theorem dX2_isUnderWay_11 : decode cX2_isUnderWay 11 = .ok (.aload_n 0, 1) := by decide +kernel
theorem dX2_isUnderWay_12 : decode cX2_isUnderWay 12 = .ok (.iload_n 1, 1) := by decide +kernel
theorem dX2_isUnderWay_13 : decode cX2_isUnderWay 13 = .ok (.invokevirtual 70, 3) := by decide +kernel
theorem dX2_isUnderWay_16 : decode cX2_isUnderWay 16 = .ok (.ifCond .eq 7, 3) := by decide +kernel
theorem dX2_isUnderWay_19 : decode cX2_isUnderWay 19 = .ok (.iconst 1, 1) := by decide +kernel
theorem dX2_isUnderWay_20 : decode cX2_isUnderWay 20 = .ok (.goto 4, 3) := by decide +kernel
theorem dX2_isUnderWay_23 : decode cX2_isUnderWay 23 = .ok (.iconst 0, 1) := by decide +kernel
theorem dX2_isUnderWay_24 : decode cX2_isUnderWay 24 = .ok (.ireturn, 1) := by decide +kernel
theorem dX2_reasonAgainst_0 : decode cX2_reasonAgainst 0 = .ok (.aload_n 0, 1) := by decide +kernel
theorem dX2_reasonAgainst_1 : decode cX2_reasonAgainst 1 = .ok (.getfield 21, 3) := by decide +kernel
theorem dX2_reasonAgainst_4 : decode cX2_reasonAgainst 4 = .ok (.iload_n 1, 1) := by decide +kernel
theorem dX2_reasonAgainst_5 : decode cX2_reasonAgainst 5 = .ok (.invokevirtual 66, 3) := by decide +kernel
theorem dX2_reasonAgainst_8 : decode cX2_reasonAgainst 8 = .ok (.ifCond .ne 5, 3) := by decide +kernel
theorem dX2_reasonAgainst_11 : decode cX2_reasonAgainst 11 = .ok (.iconst 1, 1) := by decide +kernel
theorem dX2_reasonAgainst_12 : decode cX2_reasonAgainst 12 = .ok (.ireturn, 1) := by decide +kernel
theorem dX2_reasonAgainst_13 : decode cX2_reasonAgainst 13 = .ok (.aload_n 0, 1) := by decide +kernel
theorem dX2_reasonAgainst_14 : decode cX2_reasonAgainst 14 = .ok (.iload_n 1, 1) := by decide +kernel
theorem dX2_reasonAgainst_15 : decode cX2_reasonAgainst 15 = .ok (.invokevirtual 70, 3) := by decide +kernel
theorem dX2_reasonAgainst_18 : decode cX2_reasonAgainst 18 = .ok (.ifCond .eq 5, 3) := by decide +kernel
theorem dX2_reasonAgainst_21 : decode cX2_reasonAgainst 21 = .ok (.iconst 2, 1) := by decide +kernel
theorem dX2_reasonAgainst_22 : decode cX2_reasonAgainst 22 = .ok (.ireturn, 1) := by decide +kernel
theorem dX2_reasonAgainst_23 : decode cX2_reasonAgainst 23 = .ok (.aload_n 0, 1) := by decide +kernel
theorem dX2_reasonAgainst_24 : decode cX2_reasonAgainst 24 = .ok (.getfield 12, 3) := by decide +kernel
theorem dX2_reasonAgainst_27 : decode cX2_reasonAgainst 27 = .ok (.aload_n 0, 1) := by decide +kernel
theorem dX2_reasonAgainst_28 : decode cX2_reasonAgainst 28 = .ok (.getfield 21, 3) := by decide +kernel
theorem dX2_reasonAgainst_31 : decode cX2_reasonAgainst 31 = .ok (.getfield 73, 3) := by decide +kernel
theorem dX2_reasonAgainst_34 : decode cX2_reasonAgainst 34 = .ok (.iload_n 1, 1) := by decide +kernel
theorem dX2_reasonAgainst_35 : decode cX2_reasonAgainst 35 = .ok (.iaload, 1) := by decide +kernel
theorem dX2_reasonAgainst_36 : decode cX2_reasonAgainst 36 = .ok (.iload_n 2, 1) := by decide +kernel
theorem dX2_reasonAgainst_37 : decode cX2_reasonAgainst 37 = .ok (.iload_n 3, 1) := by decide +kernel
theorem dX2_reasonAgainst_38 : decode cX2_reasonAgainst 38 = .ok (.iload 4, 2) := by decide +kernel
theorem dX2_reasonAgainst_40 : decode cX2_reasonAgainst 40 = .ok (.invokevirtual 76, 3) := by decide +kernel
theorem dX2_reasonAgainst_43 : decode cX2_reasonAgainst 43 = .ok (.ifCond .ne 5, 3) := by decide +kernel
theorem dX2_reasonAgainst_46 : decode cX2_reasonAgainst 46 = .ok (.iconst 3, 1) := by decide +kernel
theorem dX2_reasonAgainst_47 : decode cX2_reasonAgainst 47 = .ok (.ireturn, 1) := by decide +kernel
theorem dX2_reasonAgainst_48 : decode cX2_reasonAgainst 48 = .ok (.iload_n 2, 1) := by decide +kernel
theorem dX2_reasonAgainst_49 : decode cX2_reasonAgainst 49 = .ok (.iload_n 3, 1) := by decide +kernel
theorem dX2_reasonAgainst_50 : decode cX2_reasonAgainst 50 = .ok (.iload 4, 2) := by decide +kernel
theorem dX2_reasonAgainst_52 : decode cX2_reasonAgainst 52 = .ok (.invokestatic 80, 3) := by decide +kernel
theorem dX2_reasonAgainst_55 : decode cX2_reasonAgainst 55 = .ok (.istore 5, 2) := by decide +kernel
theorem dX2_reasonAgainst_57 : decode cX2_reasonAgainst 57 = .ok (.iload 5, 2) := by decide +kernel
theorem dX2_reasonAgainst_59 : decode cX2_reasonAgainst 59 = .ok (.aload_n 0, 1) := by decide +kernel
theorem dX2_reasonAgainst_60 : decode cX2_reasonAgainst 60 = .ok (.getfield 12, 3) := by decide +kernel
theorem dX2_reasonAgainst_63 : decode cX2_reasonAgainst 63 = .ok (.aload_n 0, 1) := by decide +kernel
theorem dX2_reasonAgainst_64 : decode cX2_reasonAgainst 64 = .ok (.getfield 21, 3) := by decide +kernel
theorem dX2_reasonAgainst_67 : decode cX2_reasonAgainst 67 = .ok (.getfield 84, 3) := by decide +kernel
theorem dX2_reasonAgainst_70 : decode cX2_reasonAgainst 70 = .ok (.iload_n 1, 1) := by decide +kernel
theorem dX2_reasonAgainst_71 : decode cX2_reasonAgainst 71 = .ok (.iaload, 1) := by decide +kernel
theorem dX2_reasonAgainst_72 : decode cX2_reasonAgainst 72 = .ok (.invokevirtual 87, 3) := by decide +kernel
theorem dX2_reasonAgainst_75 : decode cX2_reasonAgainst 75 = .ok (.iconst (-1), 1) := by decide +kernel
theorem dX2_reasonAgainst_76 : decode cX2_reasonAgainst 76 = .ok (.ixor, 1) := by decide +kernel
theorem dX2_reasonAgainst_77 : decode cX2_reasonAgainst 77 = .ok (.iand, 1) := by decide +kernel
theorem dX2_reasonAgainst_78 : decode cX2_reasonAgainst 78 = .ok (.ifCond .eq 5, 3) := by decide +kernel
theorem dX2_reasonAgainst_81 : decode cX2_reasonAgainst 81 = .ok (.iconst 4, 1) := by decide +kernel
theorem dX2_reasonAgainst_82 : decode cX2_reasonAgainst 82 = .ok (.ireturn, 1) := by decide +kernel
theorem dX2_reasonAgainst_83 : decode cX2_reasonAgainst 83 = .ok (.iload 5, 2) := by decide +kernel
theorem dX2_reasonAgainst_85 : decode cX2_reasonAgainst 85 = .ok (.aload_n 0, 1) := by decide +kernel
theorem dX2_reasonAgainst_86 : decode cX2_reasonAgainst 86 = .ok (.getfield 21, 3) := by decide +kernel
theorem dX2_reasonAgainst_89 : decode cX2_reasonAgainst 89 = .ok (.iload_n 1, 1) := by decide +kernel
theorem dX2_reasonAgainst_90 : decode cX2_reasonAgainst 90 = .ok (.invokevirtual 91, 3) := by decide +kernel
theorem dX2_reasonAgainst_93 : decode cX2_reasonAgainst 93 = .ok (.iand, 1) := by decide +kernel
theorem dX2_reasonAgainst_94 : decode cX2_reasonAgainst 94 = .ok (.ifCond .eq 7, 3) := by decide +kernel
theorem dX2_reasonAgainst_97 : decode cX2_reasonAgainst 97 = .ok (.iconst 5, 1) := by decide +kernel
theorem dX2_reasonAgainst_98 : decode cX2_reasonAgainst 98 = .ok (.goto 4, 3) := by decide +kernel
theorem dX2_reasonAgainst_101 : decode cX2_reasonAgainst 101 = .ok (.iconst 0, 1) := by decide +kernel
theorem dX2_reasonAgainst_102 : decode cX2_reasonAgainst 102 = .ok (.ireturn, 1) := by decide +kernel
theorem dX2_earns_0 : decode cX2_earns 0 = .ok (.iload_n 1, 1) := by decide +kernel
theorem dX2_earns_1 : decode cX2_earns 1 = .ok (.ifCond .lt 14, 3) := by decide +kernel
theorem dX2_earns_4 : decode cX2_earns 4 = .ok (.iload_n 1, 1) := by decide +kernel
theorem dX2_earns_5 : decode cX2_earns 5 = .ok (.aload_n 0, 1) := by decide +kernel
theorem dX2_earns_6 : decode cX2_earns 6 = .ok (.getfield 12, 3) := by decide +kernel
theorem dX2_earns_9 : decode cX2_earns 9 = .ok (.getfield 94, 3) := by decide +kernel
theorem dX2_earns_12 : decode cX2_earns 12 = .ok (.if_icmp .lt 5, 3) := by decide +kernel
theorem dX2_earns_15 : decode cX2_earns 15 = .ok (.iconst 0, 1) := by decide +kernel
theorem dX2_earns_16 : decode cX2_earns 16 = .ok (.ireturn, 1) := by decide +kernel
theorem dX2_earns_17 : decode cX2_earns 17 = .ok (.aload_n 0, 1) := by decide +kernel
theorem dX2_earns_18 : decode cX2_earns 18 = .ok (.getfield 12, 3) := by decide +kernel
theorem dX2_earns_21 : decode cX2_earns 21 = .ok (.getfield 97, 3) := by decide +kernel
theorem dX2_earns_24 : decode cX2_earns 24 = .ok (.iload_n 1, 1) := by decide +kernel
theorem dX2_earns_25 : decode cX2_earns 25 = .ok (.iaload, 1) := by decide +kernel
theorem dX2_earns_26 : decode cX2_earns 26 = .ok (.aload_n 0, 1) := by decide +kernel
theorem dX2_earns_27 : decode cX2_earns 27 = .ok (.getfield 21, 3) := by decide +kernel
theorem dX2_earns_30 : decode cX2_earns 30 = .ok (.getfield 100, 3) := by decide +kernel
theorem dX2_earns_33 : decode cX2_earns 33 = .ok (.iload_n 2, 1) := by decide +kernel
theorem dX2_earns_34 : decode cX2_earns 34 = .ok (.iaload, 1) := by decide +kernel
theorem dX2_earns_35 : decode cX2_earns 35 = .ok (.imul, 1) := by decide +kernel
theorem dX2_earns_36 : decode cX2_earns 36 = .ok (.bipush 9, 2) := by decide +kernel
theorem dX2_earns_38 : decode cX2_earns 38 = .ok (.iadd, 1) := by decide +kernel
theorem dX2_earns_39 : decode cX2_earns 39 = .ok (.bipush 10, 2) := by decide +kernel
theorem dX2_earns_41 : decode cX2_earns 41 = .ok (.idiv, 1) := by decide +kernel
theorem dX2_earns_42 : decode cX2_earns 42 = .ok (.istore 4, 2) := by decide +kernel
theorem dX2_earns_44 : decode cX2_earns 44 = .ok (.iload_n 3, 1) := by decide +kernel
theorem dX2_earns_45 : decode cX2_earns 45 = .ok (.ifCond .eq 22, 3) := by decide +kernel
theorem dX2_earns_48 : decode cX2_earns 48 = .ok (.iload 4, 2) := by decide +kernel
theorem dX2_earns_50 : decode cX2_earns 50 = .ok (.bipush 100, 2) := by decide +kernel
theorem dX2_earns_52 : decode cX2_earns 52 = .ok (.aload_n 0, 1) := by decide +kernel
theorem dX2_earns_53 : decode cX2_earns 53 = .ok (.getfield 34, 3) := by decide +kernel
theorem dX2_earns_56 : decode cX2_earns 56 = .ok (.bipush 6, 2) := by decide +kernel
theorem dX2_earns_58 : decode cX2_earns 58 = .ok (.iaload, 1) := by decide +kernel
theorem dX2_earns_59 : decode cX2_earns 59 = .ok (.iadd, 1) := by decide +kernel
theorem dX2_earns_60 : decode cX2_earns 60 = .ok (.imul, 1) := by decide +kernel
theorem dX2_earns_61 : decode cX2_earns 61 = .ok (.bipush 100, 2) := by decide +kernel
theorem dX2_earns_63 : decode cX2_earns 63 = .ok (.idiv, 1) := by decide +kernel
theorem dX2_earns_64 : decode cX2_earns 64 = .ok (.goto 5, 3) := by decide +kernel
theorem dX2_earns_67 : decode cX2_earns 67 = .ok (.iload 4, 2) := by decide +kernel
theorem dX2_earns_69 : decode cX2_earns 69 = .ok (.ireturn, 1) := by decide +kernel
theorem dX2_payOf_0 : decode cX2_payOf 0 = .ok (.aload_n 0, 1) := by decide +kernel
theorem dX2_payOf_1 : decode cX2_payOf 1 = .ok (.aload_n 0, 1) := by decide +kernel
theorem dX2_payOf_2 : decode cX2_payOf 2 = .ok (.getfield 21, 3) := by decide +kernel
theorem dX2_payOf_5 : decode cX2_payOf 5 = .ok (.iload_n 1, 1) := by decide +kernel
theorem dX2_payOf_6 : decode cX2_payOf 6 = .ok (.iload_n 2, 1) := by decide +kernel
theorem dX2_payOf_7 : decode cX2_payOf 7 = .ok (.invokevirtual 103, 3) := by decide +kernel
theorem dX2_payOf_10 : decode cX2_payOf 10 = .ok (.iload_n 1, 1) := by decide +kernel
theorem dX2_payOf_11 : decode cX2_payOf 11 = .ok (.aload_n 0, 1) := by decide +kernel
theorem dX2_payOf_12 : decode cX2_payOf 12 = .ok (.getfield 21, 3) := by decide +kernel
theorem dX2_payOf_15 : decode cX2_payOf 15 = .ok (.getfield 107, 3) := by decide +kernel
theorem dX2_payOf_18 : decode cX2_payOf 18 = .ok (.iload_n 1, 1) := by decide +kernel
theorem dX2_payOf_19 : decode cX2_payOf 19 = .ok (.iaload, 1) := by decide +kernel
theorem dX2_payOf_20 : decode cX2_payOf 20 = .ok (.iconst 1, 1) := by decide +kernel
theorem dX2_payOf_21 : decode cX2_payOf 21 = .ok (.if_icmp .le 7, 3) := by decide +kernel
theorem dX2_payOf_24 : decode cX2_payOf 24 = .ok (.iconst 1, 1) := by decide +kernel
theorem dX2_payOf_25 : decode cX2_payOf 25 = .ok (.goto 4, 3) := by decide +kernel
theorem dX2_payOf_28 : decode cX2_payOf 28 = .ok (.iconst 0, 1) := by decide +kernel
theorem dX2_payOf_29 : decode cX2_payOf 29 = .ok (.invokevirtual 110, 3) := by decide +kernel
theorem dX2_payOf_32 : decode cX2_payOf 32 = .ok (.iload_n 3, 1) := by decide +kernel
theorem dX2_payOf_33 : decode cX2_payOf 33 = .ok (.imul, 1) := by decide +kernel
theorem dX2_payOf_34 : decode cX2_payOf 34 = .ok (.iconst 2, 1) := by decide +kernel
theorem dX2_payOf_35 : decode cX2_payOf 35 = .ok (.idiv, 1) := by decide +kernel
theorem dX2_payOf_36 : decode cX2_payOf 36 = .ok (.ireturn, 1) := by decide +kernel
theorem dX2_chainPay_0 : decode cX2_chainPay 0 = .ok (.iconst 0, 1) := by decide +kernel
theorem dX2_chainPay_1 : decode cX2_chainPay 1 = .ok (.istore_n 3, 1) := by decide +kernel
theorem dX2_chainPay_2 : decode cX2_chainPay 2 = .ok (.iconst 0, 1) := by decide +kernel
theorem dX2_chainPay_3 : decode cX2_chainPay 3 = .ok (.istore 4, 2) := by decide +kernel
theorem dX2_chainPay_5 : decode cX2_chainPay 5 = .ok (.iload 4, 2) := by decide +kernel
theorem dX2_chainPay_7 : decode cX2_chainPay 7 = .ok (.aload_n 0, 1) := by decide +kernel
theorem dX2_chainPay_8 : decode cX2_chainPay 8 = .ok (.getfield 21, 3) := by decide +kernel
theorem dX2_chainPay_11 : decode cX2_chainPay 11 = .ok (.getfield 107, 3) := by decide +kernel
theorem dX2_chainPay_14 : decode cX2_chainPay 14 = .ok (.iload_n 1, 1) := by decide +kernel
theorem dX2_chainPay_15 : decode cX2_chainPay 15 = .ok (.iaload, 1) := by decide +kernel
theorem dX2_chainPay_16 : decode cX2_chainPay 16 = .ok (.if_icmp .ge 20, 3) := by decide +kernel
theorem dX2_chainPay_19 : decode cX2_chainPay 19 = .ok (.iload_n 3, 1) := by decide +kernel
theorem dX2_chainPay_20 : decode cX2_chainPay 20 = .ok (.aload_n 0, 1) := by decide +kernel
theorem dX2_chainPay_21 : decode cX2_chainPay 21 = .ok (.iload_n 1, 1) := by decide +kernel
theorem dX2_chainPay_22 : decode cX2_chainPay 22 = .ok (.iload 4, 2) := by decide +kernel
theorem dX2_chainPay_24 : decode cX2_chainPay 24 = .ok (.iload_n 2, 1) := by decide +kernel
theorem dX2_chainPay_25 : decode cX2_chainPay 25 = .ok (.invokevirtual 114, 3) := by decide +kernel
theorem dX2_chainPay_28 : decode cX2_chainPay 28 = .ok (.iadd, 1) := by decide +kernel
theorem dX2_chainPay_29 : decode cX2_chainPay 29 = .ok (.istore_n 3, 1) := by decide +kernel
theorem dX2_chainPay_30 : decode cX2_chainPay 30 = .ok (.iinc 4 1, 3) := by decide +kernel
theorem dX2_chainPay_33 : decode cX2_chainPay 33 = .ok (.goto (-28), 3) := by decide +kernel
theorem dX2_chainPay_36 : decode cX2_chainPay 36 = .ok (.iload_n 3, 1) := by decide +kernel
theorem dX2_chainPay_37 : decode cX2_chainPay 37 = .ok (.ireturn, 1) := by decide +kernel
theorem dX2_payByNotice_0 : decode cX2_payByNotice 0 = .ok (.iload_n 1, 1) := by decide +kernel
theorem dX2_payByNotice_1 : decode cX2_payByNotice 1 = .ok (.aload_n 0, 1) := by decide +kernel
theorem dX2_payByNotice_2 : decode cX2_payByNotice 2 = .ok (.getfield 34, 3) := by decide +kernel
theorem dX2_payByNotice_5 : decode cX2_payByNotice 5 = .ok (.iconst 4, 1) := by decide +kernel
theorem dX2_payByNotice_6 : decode cX2_payByNotice 6 = .ok (.iaload, 1) := by decide +kernel
theorem dX2_payByNotice_7 : decode cX2_payByNotice 7 = .ok (.if_icmp .ge 5, 3) := by decide +kernel
theorem dX2_payByNotice_10 : decode cX2_payByNotice 10 = .ok (.iconst 2, 1) := by decide +kernel
theorem dX2_payByNotice_11 : decode cX2_payByNotice 11 = .ok (.ireturn, 1) := by decide +kernel
theorem dX2_payByNotice_12 : decode cX2_payByNotice 12 = .ok (.iload_n 1, 1) := by decide +kernel
theorem dX2_payByNotice_13 : decode cX2_payByNotice 13 = .ok (.aload_n 0, 1) := by decide +kernel
theorem dX2_payByNotice_14 : decode cX2_payByNotice 14 = .ok (.getfield 34, 3) := by decide +kernel
theorem dX2_payByNotice_17 : decode cX2_payByNotice 17 = .ok (.iconst 5, 1) := by decide +kernel
theorem dX2_payByNotice_18 : decode cX2_payByNotice 18 = .ok (.iaload, 1) := by decide +kernel
theorem dX2_payByNotice_19 : decode cX2_payByNotice 19 = .ok (.if_icmp .ge 7, 3) := by decide +kernel
theorem dX2_payByNotice_22 : decode cX2_payByNotice 22 = .ok (.iconst 1, 1) := by decide +kernel
theorem dX2_payByNotice_23 : decode cX2_payByNotice 23 = .ok (.goto 4, 3) := by decide +kernel
theorem dX2_payByNotice_26 : decode cX2_payByNotice 26 = .ok (.iconst 0, 1) := by decide +kernel
theorem dX2_payByNotice_27 : decode cX2_payByNotice 27 = .ok (.ireturn, 1) := by decide +kernel
theorem dX2_close_0 : decode cX2_close 0 = .ok (.iconst 0, 1) := by decide +kernel
theorem dX2_close_1 : decode cX2_close 1 = .ok (.istore 4, 2) := by decide +kernel
theorem dX2_close_3 : decode cX2_close 3 = .ok (.iconst 0, 1) := by decide +kernel
theorem dX2_close_4 : decode cX2_close 4 = .ok (.istore 5, 2) := by decide +kernel
theorem dX2_close_6 : decode cX2_close 6 = .ok (.iload 5, 2) := by decide +kernel
theorem dX2_close_8 : decode cX2_close 8 = .ok (.aload_n 0, 1) := by decide +kernel
theorem dX2_close_9 : decode cX2_close 9 = .ok (.getfield 21, 3) := by decide +kernel
theorem dX2_close_12 : decode cX2_close 12 = .ok (.getfield 107, 3) := by decide +kernel
theorem dX2_close_15 : decode cX2_close 15 = .ok (.iload_n 1, 1) := by decide +kernel
theorem dX2_close_16 : decode cX2_close 16 = .ok (.iaload, 1) := by decide +kernel
theorem dX2_close_17 : decode cX2_close 17 = .ok (.if_icmp .ge 45, 3) := by decide +kernel
theorem dX2_close_20 : decode cX2_close 20 = .ok (.aload_n 0, 1) := by decide +kernel
theorem dX2_close_21 : decode cX2_close 21 = .ok (.iload_n 1, 1) := by decide +kernel
theorem dX2_close_22 : decode cX2_close 22 = .ok (.iload 5, 2) := by decide +kernel
theorem dX2_close_24 : decode cX2_close 24 = .ok (.iload_n 3, 1) := by decide +kernel
theorem dX2_close_25 : decode cX2_close 25 = .ok (.invokevirtual 114, 3) := by decide +kernel
theorem dX2_close_28 : decode cX2_close 28 = .ok (.istore 6, 2) := by decide +kernel
theorem dX2_close_30 : decode cX2_close 30 = .ok (.aload_n 0, 1) := by decide +kernel
theorem dX2_close_31 : decode cX2_close 31 = .ok (.getfield 12, 3) := by decide +kernel
theorem dX2_close_34 : decode cX2_close 34 = .ok (.aload_n 0, 1) := by decide +kernel
theorem dX2_close_35 : decode cX2_close 35 = .ok (.getfield 21, 3) := by decide +kernel
theorem dX2_close_38 : decode cX2_close 38 = .ok (.iload_n 1, 1) := by decide +kernel
theorem dX2_close_39 : decode cX2_close 39 = .ok (.iload 5, 2) := by decide +kernel
theorem dX2_close_41 : decode cX2_close 41 = .ok (.invokevirtual 103, 3) := by decide +kernel
theorem dX2_close_44 : decode cX2_close 44 = .ok (.iload 6, 2) := by decide +kernel
theorem dX2_close_46 : decode cX2_close 46 = .ok (.invokevirtual 123, 3) := by decide +kernel
theorem dX2_close_49 : decode cX2_close 49 = .ok (.iload 4, 2) := by decide +kernel
theorem dX2_close_51 : decode cX2_close 51 = .ok (.iload 6, 2) := by decide +kernel
theorem dX2_close_53 : decode cX2_close 53 = .ok (.iadd, 1) := by decide +kernel
theorem dX2_close_54 : decode cX2_close 54 = .ok (.istore 4, 2) := by decide +kernel
theorem dX2_close_56 : decode cX2_close 56 = .ok (.iinc 5 1, 3) := by decide +kernel
theorem dX2_close_59 : decode cX2_close 59 = .ok (.goto (-53), 3) := by decide +kernel
theorem dX2_close_62 : decode cX2_close 62 = .ok (.aload_n 0, 1) := by decide +kernel
theorem dX2_close_63 : decode cX2_close 63 = .ok (.getfield 21, 3) := by decide +kernel
theorem dX2_close_66 : decode cX2_close 66 = .ok (.getfield 127, 3) := by decide +kernel
theorem dX2_close_69 : decode cX2_close 69 = .ok (.iload_n 1, 1) := by decide +kernel
theorem dX2_close_70 : decode cX2_close 70 = .ok (.iload_n 2, 1) := by decide +kernel
theorem dX2_close_71 : decode cX2_close 71 = .ok (.iastore, 1) := by decide +kernel
theorem dX2_close_72 : decode cX2_close 72 = .ok (.aload_n 0, 1) := by decide +kernel
theorem dX2_close_73 : decode cX2_close 73 = .ok (.getfield 21, 3) := by decide +kernel
theorem dX2_close_76 : decode cX2_close 76 = .ok (.getfield 130, 3) := by decide +kernel
theorem dX2_close_79 : decode cX2_close 79 = .ok (.iload_n 1, 1) := by decide +kernel
theorem dX2_close_80 : decode cX2_close 80 = .ok (.dup2, 1) := by decide +kernel
theorem dX2_close_81 : decode cX2_close 81 = .ok (.iaload, 1) := by decide +kernel
theorem dX2_close_82 : decode cX2_close 82 = .ok (.iload 4, 2) := by decide +kernel
theorem dX2_close_84 : decode cX2_close 84 = .ok (.iadd, 1) := by decide +kernel
theorem dX2_close_85 : decode cX2_close 85 = .ok (.iastore, 1) := by decide +kernel
theorem dX2_close_86 : decode cX2_close 86 = .ok (.aload_n 0, 1) := by decide +kernel
theorem dX2_close_87 : decode cX2_close 87 = .ok (.dup, 1) := by decide +kernel
theorem dX2_close_88 : decode cX2_close 88 = .ok (.getfield 54, 3) := by decide +kernel
theorem dX2_close_91 : decode cX2_close 91 = .ok (.iload 4, 2) := by decide +kernel
theorem dX2_close_93 : decode cX2_close 93 = .ok (.iadd, 1) := by decide +kernel
theorem dX2_close_94 : decode cX2_close 94 = .ok (.putfield 54, 3) := by decide +kernel
theorem dX2_close_97 : decode cX2_close 97 = .ok (.iload_n 2, 1) := by decide +kernel
theorem dX2_close_98 : decode cX2_close 98 = .ok (.iconst 3, 1) := by decide +kernel
theorem dX2_close_99 : decode cX2_close 99 = .ok (.if_icmp .ne 17, 3) := by decide +kernel
theorem dX2_close_102 : decode cX2_close 102 = .ok (.aload_n 0, 1) := by decide +kernel
theorem dX2_close_103 : decode cX2_close 103 = .ok (.dup, 1) := by decide +kernel
theorem dX2_close_104 : decode cX2_close 104 = .ok (.getfield 57, 3) := by decide +kernel
theorem dX2_close_107 : decode cX2_close 107 = .ok (.iload 4, 2) := by decide +kernel
theorem dX2_close_109 : decode cX2_close 109 = .ok (.iadd, 1) := by decide +kernel
theorem dX2_close_110 : decode cX2_close 110 = .ok (.putfield 57, 3) := by decide +kernel
theorem dX2_close_113 : decode cX2_close 113 = .ok (.goto 19, 3) := by decide +kernel
theorem dX2_close_116 : decode cX2_close 116 = .ok (.iload_n 2, 1) := by decide +kernel
theorem dX2_close_117 : decode cX2_close 117 = .ok (.iconst 2, 1) := by decide +kernel
theorem dX2_close_118 : decode cX2_close 118 = .ok (.if_icmp .ne 14, 3) := by decide +kernel
theorem dX2_close_121 : decode cX2_close 121 = .ok (.aload_n 0, 1) := by decide +kernel
theorem dX2_close_122 : decode cX2_close 122 = .ok (.dup, 1) := by decide +kernel
theorem dX2_close_123 : decode cX2_close 123 = .ok (.getfield 60, 3) := by decide +kernel
theorem dX2_close_126 : decode cX2_close 126 = .ok (.iload 4, 2) := by decide +kernel
theorem dX2_close_128 : decode cX2_close 128 = .ok (.iadd, 1) := by decide +kernel
theorem dX2_close_129 : decode cX2_close 129 = .ok (.putfield 60, 3) := by decide +kernel
theorem dX2_close_132 : decode cX2_close 132 = .ok (.iload 4, 2) := by decide +kernel
theorem dX2_close_134 : decode cX2_close 134 = .ok (.ireturn, 1) := by decide +kernel
theorem dX2_passMinute_0 : decode cX2_passMinute 0 = .ok (.aload_n 0, 1) := by decide +kernel
theorem dX2_passMinute_1 : decode cX2_passMinute 1 = .ok (.invokevirtual 132, 3) := by decide +kernel
theorem dX2_passMinute_4 : decode cX2_passMinute 4 = .ok (.aload_n 0, 1) := by decide +kernel
theorem dX2_passMinute_5 : decode cX2_passMinute 5 = .ok (.dup, 1) := by decide +kernel
theorem dX2_passMinute_6 : decode cX2_passMinute 6 = .ok (.getfield 50, 3) := by decide +kernel
theorem dX2_passMinute_9 : decode cX2_passMinute 9 = .ok (.iconst 1, 1) := by decide +kernel
theorem dX2_passMinute_10 : decode cX2_passMinute 10 = .ok (.iadd, 1) := by decide +kernel
theorem dX2_passMinute_11 : decode cX2_passMinute 11 = .ok (.putfield 50, 3) := by decide +kernel
theorem dX2_passMinute_14 : decode cX2_passMinute 14 = .ok (.iconst 0, 1) := by decide +kernel
theorem dX2_passMinute_15 : decode cX2_passMinute 15 = .ok (.istore_n 1, 1) := by decide +kernel
theorem dX2_passMinute_16 : decode cX2_passMinute 16 = .ok (.iconst 0, 1) := by decide +kernel
theorem dX2_passMinute_17 : decode cX2_passMinute 17 = .ok (.istore_n 2, 1) := by decide +kernel
theorem dX2_passMinute_18 : decode cX2_passMinute 18 = .ok (.iload_n 2, 1) := by decide +kernel
theorem dX2_passMinute_19 : decode cX2_passMinute 19 = .ok (.aload_n 0, 1) := by decide +kernel
theorem dX2_passMinute_20 : decode cX2_passMinute 20 = .ok (.getfield 21, 3) := by decide +kernel
theorem dX2_passMinute_23 : decode cX2_passMinute 23 = .ok (.getfield 135, 3) := by decide +kernel
theorem dX2_passMinute_26 : decode cX2_passMinute 26 = .ok (.if_icmp .ge 81, 3) := by decide +kernel
theorem dX2_passMinute_29 : decode cX2_passMinute 29 = .ok (.aload_n 0, 1) := by decide +kernel
theorem dX2_passMinute_30 : decode cX2_passMinute 30 = .ok (.getfield 21, 3) := by decide +kernel
theorem dX2_passMinute_33 : decode cX2_passMinute 33 = .ok (.iload_n 2, 1) := by decide +kernel
theorem dX2_passMinute_34 : decode cX2_passMinute 34 = .ok (.invokevirtual 66, 3) := by decide +kernel
theorem dX2_passMinute_37 : decode cX2_passMinute 37 = .ok (.ifCond .eq 64, 3) := by decide +kernel
theorem dX2_passMinute_40 : decode cX2_passMinute 40 = .ok (.aload_n 0, 1) := by decide +kernel
theorem dX2_passMinute_41 : decode cX2_passMinute 41 = .ok (.getfield 21, 3) := by decide +kernel
theorem dX2_passMinute_44 : decode cX2_passMinute 44 = .ok (.iload_n 2, 1) := by decide +kernel
theorem dX2_passMinute_45 : decode cX2_passMinute 45 = .ok (.invokevirtual 136, 3) := by decide +kernel
theorem dX2_passMinute_48 : decode cX2_passMinute 48 = .ok (.aload_n 0, 1) := by decide +kernel
theorem dX2_passMinute_49 : decode cX2_passMinute 49 = .ok (.getfield 50, 3) := by decide +kernel
theorem dX2_passMinute_52 : decode cX2_passMinute 52 = .ok (.if_icmp .ne 49, 3) := by decide +kernel
theorem dX2_passMinute_55 : decode cX2_passMinute 55 = .ok (.aload_n 0, 1) := by decide +kernel
theorem dX2_passMinute_56 : decode cX2_passMinute 56 = .ok (.getfield 21, 3) := by decide +kernel
theorem dX2_passMinute_59 : decode cX2_passMinute 59 = .ok (.getfield 107, 3) := by decide +kernel
theorem dX2_passMinute_62 : decode cX2_passMinute 62 = .ok (.iload_n 2, 1) := by decide +kernel
theorem dX2_passMinute_63 : decode cX2_passMinute 63 = .ok (.iaload, 1) := by decide +kernel
theorem dX2_passMinute_64 : decode cX2_passMinute 64 = .ok (.ifCond .le 7, 3) := by decide +kernel
theorem dX2_passMinute_67 : decode cX2_passMinute 67 = .ok (.iconst 1, 1) := by decide +kernel
theorem dX2_passMinute_68 : decode cX2_passMinute 68 = .ok (.goto 4, 3) := by decide +kernel
theorem dX2_passMinute_71 : decode cX2_passMinute 71 = .ok (.iconst 0, 1) := by decide +kernel
theorem dX2_passMinute_72 : decode cX2_passMinute 72 = .ok (.istore_n 3, 1) := by decide +kernel
theorem dX2_passMinute_73 : decode cX2_passMinute 73 = .ok (.aload_n 0, 1) := by decide +kernel
theorem dX2_passMinute_74 : decode cX2_passMinute 74 = .ok (.iload_n 2, 1) := by decide +kernel
theorem dX2_passMinute_75 : decode cX2_passMinute 75 = .ok (.iload_n 3, 1) := by decide +kernel
theorem dX2_passMinute_76 : decode cX2_passMinute 76 = .ok (.ifCond .eq 7, 3) := by decide +kernel
theorem dX2_passMinute_79 : decode cX2_passMinute 79 = .ok (.iconst 1, 1) := by decide +kernel
theorem dX2_passMinute_80 : decode cX2_passMinute 80 = .ok (.goto 4, 3) := by decide +kernel
theorem dX2_passMinute_83 : decode cX2_passMinute 83 = .ok (.iconst 2, 1) := by decide +kernel
theorem dX2_passMinute_84 : decode cX2_passMinute 84 = .ok (.iconst 2, 1) := by decide +kernel
theorem dX2_passMinute_85 : decode cX2_passMinute 85 = .ok (.invokevirtual 139, 3) := by decide +kernel
theorem dX2_passMinute_88 : decode cX2_passMinute 88 = .ok (.pop, 1) := by decide +kernel
theorem dX2_passMinute_89 : decode cX2_passMinute 89 = .ok (.iload_n 1, 1) := by decide +kernel
theorem dX2_passMinute_90 : decode cX2_passMinute 90 = .ok (.iload_n 3, 1) := by decide +kernel
theorem dX2_passMinute_91 : decode cX2_passMinute 91 = .ok (.ifCond .eq 7, 3) := by decide +kernel
theorem dX2_passMinute_94 : decode cX2_passMinute 94 = .ok (.iconst 1, 1) := by decide +kernel
theorem dX2_passMinute_95 : decode cX2_passMinute 95 = .ok (.goto 4, 3) := by decide +kernel
theorem dX2_passMinute_98 : decode cX2_passMinute 98 = .ok (.iconst 0, 1) := by decide +kernel
theorem dX2_passMinute_99 : decode cX2_passMinute 99 = .ok (.iadd, 1) := by decide +kernel
theorem dX2_passMinute_100 : decode cX2_passMinute 100 = .ok (.istore_n 1, 1) := by decide +kernel
theorem dX2_passMinute_101 : decode cX2_passMinute 101 = .ok (.iinc 2 1, 3) := by decide +kernel
theorem dX2_passMinute_104 : decode cX2_passMinute 104 = .ok (.goto (-86), 3) := by decide +kernel
theorem dX2_passMinute_107 : decode cX2_passMinute 107 = .ok (.aload_n 0, 1) := by decide +kernel
theorem dX2_passMinute_108 : decode cX2_passMinute 108 = .ok (.invokevirtual 142, 3) := by decide +kernel
theorem dX2_passMinute_111 : decode cX2_passMinute 111 = .ok (.iload_n 1, 1) := by decide +kernel
theorem dX2_passMinute_112 : decode cX2_passMinute 112 = .ok (.ireturn, 1) := by decide +kernel
theorem dX2_tireAndRest_0 : decode cX2_tireAndRest 0 = .ok (.iconst 0, 1) := by decide +kernel
theorem dX2_tireAndRest_1 : decode cX2_tireAndRest 1 = .ok (.istore_n 1, 1) := by decide +kernel
theorem dX2_tireAndRest_2 : decode cX2_tireAndRest 2 = .ok (.iconst 0, 1) := by decide +kernel
theorem dX2_tireAndRest_3 : decode cX2_tireAndRest 3 = .ok (.istore_n 2, 1) := by decide +kernel
theorem dX2_tireAndRest_4 : decode cX2_tireAndRest 4 = .ok (.iconst 0, 1) := by decide +kernel
theorem dX2_tireAndRest_5 : decode cX2_tireAndRest 5 = .ok (.istore_n 3, 1) := by decide +kernel
theorem dX2_tireAndRest_6 : decode cX2_tireAndRest 6 = .ok (.iload_n 3, 1) := by decide +kernel
theorem dX2_tireAndRest_7 : decode cX2_tireAndRest 7 = .ok (.aload_n 0, 1) := by decide +kernel
theorem dX2_tireAndRest_8 : decode cX2_tireAndRest 8 = .ok (.getfield 21, 3) := by decide +kernel
theorem dX2_tireAndRest_11 : decode cX2_tireAndRest 11 = .ok (.getfield 135, 3) := by decide +kernel
theorem dX2_tireAndRest_14 : decode cX2_tireAndRest 14 = .ok (.if_icmp .ge 57, 3) := by decide +kernel
theorem dX2_tireAndRest_17 : decode cX2_tireAndRest 17 = .ok (.aload_n 0, 1) := by decide +kernel
theorem dX2_tireAndRest_18 : decode cX2_tireAndRest 18 = .ok (.iload_n 3, 1) := by decide +kernel
theorem dX2_tireAndRest_19 : decode cX2_tireAndRest 19 = .ok (.invokevirtual 145, 3) := by decide +kernel
theorem dX2_tireAndRest_22 : decode cX2_tireAndRest 22 = .ok (.ifCond .eq 43, 3) := by decide +kernel
theorem dX2_tireAndRest_25 : decode cX2_tireAndRest 25 = .ok (.aload_n 0, 1) := by decide +kernel
theorem dX2_tireAndRest_26 : decode cX2_tireAndRest 26 = .ok (.getfield 21, 3) := by decide +kernel
theorem dX2_tireAndRest_29 : decode cX2_tireAndRest 29 = .ok (.getfield 107, 3) := by decide +kernel
theorem dX2_tireAndRest_32 : decode cX2_tireAndRest 32 = .ok (.iload_n 3, 1) := by decide +kernel
theorem dX2_tireAndRest_33 : decode cX2_tireAndRest 33 = .ok (.iaload, 1) := by decide +kernel
theorem dX2_tireAndRest_34 : decode cX2_tireAndRest 34 = .ok (.iconst 1, 1) := by decide +kernel
theorem dX2_tireAndRest_35 : decode cX2_tireAndRest 35 = .ok (.if_icmp .le 18, 3) := by decide +kernel
theorem dX2_tireAndRest_38 : decode cX2_tireAndRest 38 = .ok (.iload_n 2, 1) := by decide +kernel
theorem dX2_tireAndRest_39 : decode cX2_tireAndRest 39 = .ok (.aload_n 0, 1) := by decide +kernel
theorem dX2_tireAndRest_40 : decode cX2_tireAndRest 40 = .ok (.getfield 21, 3) := by decide +kernel
theorem dX2_tireAndRest_43 : decode cX2_tireAndRest 43 = .ok (.getfield 148, 3) := by decide +kernel
theorem dX2_tireAndRest_46 : decode cX2_tireAndRest 46 = .ok (.iload_n 3, 1) := by decide +kernel
theorem dX2_tireAndRest_47 : decode cX2_tireAndRest 47 = .ok (.iaload, 1) := by decide +kernel
theorem dX2_tireAndRest_48 : decode cX2_tireAndRest 48 = .ok (.ior, 1) := by decide +kernel
theorem dX2_tireAndRest_49 : decode cX2_tireAndRest 49 = .ok (.istore_n 2, 1) := by decide +kernel
theorem dX2_tireAndRest_50 : decode cX2_tireAndRest 50 = .ok (.goto 15, 3) := by decide +kernel
theorem dX2_tireAndRest_53 : decode cX2_tireAndRest 53 = .ok (.iload_n 1, 1) := by decide +kernel
theorem dX2_tireAndRest_54 : decode cX2_tireAndRest 54 = .ok (.aload_n 0, 1) := by decide +kernel
theorem dX2_tireAndRest_55 : decode cX2_tireAndRest 55 = .ok (.getfield 21, 3) := by decide +kernel
theorem dX2_tireAndRest_58 : decode cX2_tireAndRest 58 = .ok (.getfield 148, 3) := by decide +kernel
theorem dX2_tireAndRest_61 : decode cX2_tireAndRest 61 = .ok (.iload_n 3, 1) := by decide +kernel
theorem dX2_tireAndRest_62 : decode cX2_tireAndRest 62 = .ok (.iaload, 1) := by decide +kernel
theorem dX2_tireAndRest_63 : decode cX2_tireAndRest 63 = .ok (.ior, 1) := by decide +kernel
theorem dX2_tireAndRest_64 : decode cX2_tireAndRest 64 = .ok (.istore_n 1, 1) := by decide +kernel
theorem dX2_tireAndRest_65 : decode cX2_tireAndRest 65 = .ok (.iinc 3 1, 3) := by decide +kernel
theorem dX2_tireAndRest_68 : decode cX2_tireAndRest 68 = .ok (.goto (-62), 3) := by decide +kernel
theorem dX2_tireAndRest_71 : decode cX2_tireAndRest 71 = .ok (.iconst 0, 1) := by decide +kernel
theorem dX2_tireAndRest_72 : decode cX2_tireAndRest 72 = .ok (.istore_n 3, 1) := by decide +kernel
theorem dX2_tireAndRest_73 : decode cX2_tireAndRest 73 = .ok (.iload_n 3, 1) := by decide +kernel
theorem dX2_tireAndRest_74 : decode cX2_tireAndRest 74 = .ok (.aload_n 0, 1) := by decide +kernel
theorem dX2_tireAndRest_75 : decode cX2_tireAndRest 75 = .ok (.getfield 12, 3) := by decide +kernel
theorem dX2_tireAndRest_78 : decode cX2_tireAndRest 78 = .ok (.getfield 94, 3) := by decide +kernel
theorem dX2_tireAndRest_81 : decode cX2_tireAndRest 81 = .ok (.if_icmp .ge 82, 3) := by decide +kernel
theorem dX2_tireAndRest_84 : decode cX2_tireAndRest 84 = .ok (.iload_n 2, 1) := by decide +kernel
theorem dX2_tireAndRest_85 : decode cX2_tireAndRest 85 = .ok (.iload_n 3, 1) := by decide +kernel
theorem dX2_tireAndRest_86 : decode cX2_tireAndRest 86 = .ok (.invokestatic 151, 3) := by decide +kernel
theorem dX2_tireAndRest_89 : decode cX2_tireAndRest 89 = .ok (.iand, 1) := by decide +kernel
theorem dX2_tireAndRest_90 : decode cX2_tireAndRest 90 = .ok (.ifCond .eq 27, 3) := by decide +kernel
theorem dX2_tireAndRest_93 : decode cX2_tireAndRest 93 = .ok (.aload_n 0, 1) := by decide +kernel
theorem dX2_tireAndRest_94 : decode cX2_tireAndRest 94 = .ok (.getfield 12, 3) := by decide +kernel
theorem dX2_tireAndRest_97 : decode cX2_tireAndRest 97 = .ok (.iload_n 3, 1) := by decide +kernel
theorem dX2_tireAndRest_98 : decode cX2_tireAndRest 98 = .ok (.aload_n 0, 1) := by decide +kernel
theorem dX2_tireAndRest_99 : decode cX2_tireAndRest 99 = .ok (.getfield 34, 3) := by decide +kernel
theorem dX2_tireAndRest_102 : decode cX2_tireAndRest 102 = .ok (.iconst 0, 1) := by decide +kernel
theorem dX2_tireAndRest_103 : decode cX2_tireAndRest 103 = .ok (.iaload, 1) := by decide +kernel
theorem dX2_tireAndRest_104 : decode cX2_tireAndRest 104 = .ok (.aload_n 0, 1) := by decide +kernel
theorem dX2_tireAndRest_105 : decode cX2_tireAndRest 105 = .ok (.getfield 34, 3) := by decide +kernel
theorem dX2_tireAndRest_108 : decode cX2_tireAndRest 108 = .ok (.iconst 1, 1) := by decide +kernel
theorem dX2_tireAndRest_109 : decode cX2_tireAndRest 109 = .ok (.iaload, 1) := by decide +kernel
theorem dX2_tireAndRest_110 : decode cX2_tireAndRest 110 = .ok (.iadd, 1) := by decide +kernel
theorem dX2_tireAndRest_111 : decode cX2_tireAndRest 111 = .ok (.invokevirtual 154, 3) := by decide +kernel
theorem dX2_tireAndRest_114 : decode cX2_tireAndRest 114 = .ok (.goto 43, 3) := by decide +kernel
theorem dX2_tireAndRest_117 : decode cX2_tireAndRest 117 = .ok (.iload_n 1, 1) := by decide +kernel
theorem dX2_tireAndRest_118 : decode cX2_tireAndRest 118 = .ok (.iload_n 3, 1) := by decide +kernel
theorem dX2_tireAndRest_119 : decode cX2_tireAndRest 119 = .ok (.invokestatic 151, 3) := by decide +kernel
theorem dX2_tireAndRest_122 : decode cX2_tireAndRest 122 = .ok (.iand, 1) := by decide +kernel
theorem dX2_tireAndRest_123 : decode cX2_tireAndRest 123 = .ok (.ifCond .eq 20, 3) := by decide +kernel
theorem dX2_tireAndRest_126 : decode cX2_tireAndRest 126 = .ok (.aload_n 0, 1) := by decide +kernel
theorem dX2_tireAndRest_127 : decode cX2_tireAndRest 127 = .ok (.getfield 12, 3) := by decide +kernel
theorem dX2_tireAndRest_130 : decode cX2_tireAndRest 130 = .ok (.iload_n 3, 1) := by decide +kernel
theorem dX2_tireAndRest_131 : decode cX2_tireAndRest 131 = .ok (.aload_n 0, 1) := by decide +kernel
theorem dX2_tireAndRest_132 : decode cX2_tireAndRest 132 = .ok (.getfield 34, 3) := by decide +kernel
theorem dX2_tireAndRest_135 : decode cX2_tireAndRest 135 = .ok (.iconst 0, 1) := by decide +kernel
theorem dX2_tireAndRest_136 : decode cX2_tireAndRest 136 = .ok (.iaload, 1) := by decide +kernel
theorem dX2_tireAndRest_137 : decode cX2_tireAndRest 137 = .ok (.invokevirtual 154, 3) := by decide +kernel
theorem dX2_tireAndRest_140 : decode cX2_tireAndRest 140 = .ok (.goto 17, 3) := by decide +kernel
theorem dX2_tireAndRest_143 : decode cX2_tireAndRest 143 = .ok (.aload_n 0, 1) := by decide +kernel
theorem dX2_tireAndRest_144 : decode cX2_tireAndRest 144 = .ok (.getfield 12, 3) := by decide +kernel
theorem dX2_tireAndRest_147 : decode cX2_tireAndRest 147 = .ok (.iload_n 3, 1) := by decide +kernel
theorem dX2_tireAndRest_148 : decode cX2_tireAndRest 148 = .ok (.aload_n 0, 1) := by decide +kernel
theorem dX2_tireAndRest_149 : decode cX2_tireAndRest 149 = .ok (.getfield 34, 3) := by decide +kernel
theorem dX2_tireAndRest_152 : decode cX2_tireAndRest 152 = .ok (.iconst 2, 1) := by decide +kernel
theorem dX2_tireAndRest_153 : decode cX2_tireAndRest 153 = .ok (.iaload, 1) := by decide +kernel
theorem dX2_tireAndRest_154 : decode cX2_tireAndRest 154 = .ok (.invokevirtual 157, 3) := by decide +kernel
theorem dX2_tireAndRest_157 : decode cX2_tireAndRest 157 = .ok (.iinc 3 1, 3) := by decide +kernel
theorem dX2_tireAndRest_160 : decode cX2_tireAndRest 160 = .ok (.goto (-87), 3) := by decide +kernel
theorem dX2_tireAndRest_163 : decode cX2_tireAndRest 163 = .ok (.return_, 1) := by decide +kernel
theorem dX2_adjournTired_0 : decode cX2_adjournTired 0 = .ok (.aload_n 0, 1) := by decide +kernel
theorem dX2_adjournTired_1 : decode cX2_adjournTired 1 = .ok (.getfield 12, 3) := by decide +kernel
theorem dX2_adjournTired_4 : decode cX2_adjournTired 4 = .ok (.aload_n 0, 1) := by decide +kernel
theorem dX2_adjournTired_5 : decode cX2_adjournTired 5 = .ok (.getfield 34, 3) := by decide +kernel
theorem dX2_adjournTired_8 : decode cX2_adjournTired 8 = .ok (.iconst 3, 1) := by decide +kernel
theorem dX2_adjournTired_9 : decode cX2_adjournTired 9 = .ok (.iaload, 1) := by decide +kernel
theorem dX2_adjournTired_10 : decode cX2_adjournTired 10 = .ok (.invokevirtual 160, 3) := by decide +kernel
theorem dX2_adjournTired_13 : decode cX2_adjournTired 13 = .ok (.istore_n 1, 1) := by decide +kernel
theorem dX2_adjournTired_14 : decode cX2_adjournTired 14 = .ok (.iconst 0, 1) := by decide +kernel
theorem dX2_adjournTired_15 : decode cX2_adjournTired 15 = .ok (.istore_n 2, 1) := by decide +kernel
theorem dX2_adjournTired_16 : decode cX2_adjournTired 16 = .ok (.iload_n 2, 1) := by decide +kernel
theorem dX2_adjournTired_17 : decode cX2_adjournTired 17 = .ok (.aload_n 0, 1) := by decide +kernel
theorem dX2_adjournTired_18 : decode cX2_adjournTired 18 = .ok (.getfield 21, 3) := by decide +kernel
theorem dX2_adjournTired_21 : decode cX2_adjournTired 21 = .ok (.getfield 135, 3) := by decide +kernel
theorem dX2_adjournTired_24 : decode cX2_adjournTired 24 = .ok (.if_icmp .ge 58, 3) := by decide +kernel
theorem dX2_adjournTired_27 : decode cX2_adjournTired 27 = .ok (.aload_n 0, 1) := by decide +kernel
theorem dX2_adjournTired_28 : decode cX2_adjournTired 28 = .ok (.getfield 21, 3) := by decide +kernel
theorem dX2_adjournTired_31 : decode cX2_adjournTired 31 = .ok (.iload_n 2, 1) := by decide +kernel
theorem dX2_adjournTired_32 : decode cX2_adjournTired 32 = .ok (.invokevirtual 66, 3) := by decide +kernel
theorem dX2_adjournTired_35 : decode cX2_adjournTired 35 = .ok (.ifCond .eq 41, 3) := by decide +kernel
theorem dX2_adjournTired_38 : decode cX2_adjournTired 38 = .ok (.aload_n 0, 1) := by decide +kernel
theorem dX2_adjournTired_39 : decode cX2_adjournTired 39 = .ok (.getfield 21, 3) := by decide +kernel
theorem dX2_adjournTired_42 : decode cX2_adjournTired 42 = .ok (.getfield 63, 3) := by decide +kernel
theorem dX2_adjournTired_45 : decode cX2_adjournTired 45 = .ok (.iload_n 2, 1) := by decide +kernel
theorem dX2_adjournTired_46 : decode cX2_adjournTired 46 = .ok (.iaload, 1) := by decide +kernel
theorem dX2_adjournTired_47 : decode cX2_adjournTired 47 = .ok (.aload_n 0, 1) := by decide +kernel
theorem dX2_adjournTired_48 : decode cX2_adjournTired 48 = .ok (.getfield 50, 3) := by decide +kernel
theorem dX2_adjournTired_51 : decode cX2_adjournTired 51 = .ok (.if_icmp .ne 25, 3) := by decide +kernel
theorem dX2_adjournTired_54 : decode cX2_adjournTired 54 = .ok (.aload_n 0, 1) := by decide +kernel
theorem dX2_adjournTired_55 : decode cX2_adjournTired 55 = .ok (.getfield 21, 3) := by decide +kernel
theorem dX2_adjournTired_58 : decode cX2_adjournTired 58 = .ok (.getfield 148, 3) := by decide +kernel
theorem dX2_adjournTired_61 : decode cX2_adjournTired 61 = .ok (.iload_n 2, 1) := by decide +kernel
theorem dX2_adjournTired_62 : decode cX2_adjournTired 62 = .ok (.iaload, 1) := by decide +kernel
theorem dX2_adjournTired_63 : decode cX2_adjournTired 63 = .ok (.iload_n 1, 1) := by decide +kernel
theorem dX2_adjournTired_64 : decode cX2_adjournTired 64 = .ok (.iand, 1) := by decide +kernel
theorem dX2_adjournTired_65 : decode cX2_adjournTired 65 = .ok (.ifCond .eq 11, 3) := by decide +kernel
theorem dX2_adjournTired_68 : decode cX2_adjournTired 68 = .ok (.aload_n 0, 1) := by decide +kernel
theorem dX2_adjournTired_69 : decode cX2_adjournTired 69 = .ok (.iload_n 2, 1) := by decide +kernel
theorem dX2_adjournTired_70 : decode cX2_adjournTired 70 = .ok (.iconst 2, 1) := by decide +kernel
theorem dX2_adjournTired_71 : decode cX2_adjournTired 71 = .ok (.iconst 1, 1) := by decide +kernel
theorem dX2_adjournTired_72 : decode cX2_adjournTired 72 = .ok (.invokevirtual 139, 3) := by decide +kernel
theorem dX2_adjournTired_75 : decode cX2_adjournTired 75 = .ok (.pop, 1) := by decide +kernel
theorem dX2_adjournTired_76 : decode cX2_adjournTired 76 = .ok (.iinc 2 1, 3) := by decide +kernel
theorem dX2_adjournTired_79 : decode cX2_adjournTired 79 = .ok (.goto (-63), 3) := by decide +kernel
theorem dX2_adjournTired_82 : decode cX2_adjournTired 82 = .ok (.return_, 1) := by decide +kernel
theorem dX2_working_0 : decode cX2_working 0 = .ok (.iconst 0, 1) := by decide +kernel
theorem dX2_working_1 : decode cX2_working 1 = .ok (.istore_n 1, 1) := by decide +kernel
theorem dX2_working_2 : decode cX2_working 2 = .ok (.iconst 0, 1) := by decide +kernel
theorem dX2_working_3 : decode cX2_working 3 = .ok (.istore_n 2, 1) := by decide +kernel
theorem dX2_working_4 : decode cX2_working 4 = .ok (.iload_n 2, 1) := by decide +kernel
theorem dX2_working_5 : decode cX2_working 5 = .ok (.aload_n 0, 1) := by decide +kernel
theorem dX2_working_6 : decode cX2_working 6 = .ok (.getfield 21, 3) := by decide +kernel
theorem dX2_working_9 : decode cX2_working 9 = .ok (.getfield 135, 3) := by decide +kernel
theorem dX2_working_12 : decode cX2_working 12 = .ok (.if_icmp .ge 29, 3) := by decide +kernel
theorem dX2_working_15 : decode cX2_working 15 = .ok (.aload_n 0, 1) := by decide +kernel
theorem dX2_working_16 : decode cX2_working 16 = .ok (.iload_n 2, 1) := by decide +kernel
theorem dX2_working_17 : decode cX2_working 17 = .ok (.invokevirtual 145, 3) := by decide +kernel
theorem dX2_working_20 : decode cX2_working 20 = .ok (.ifCond .eq 15, 3) := by decide +kernel
theorem dX2_working_23 : decode cX2_working 23 = .ok (.iload_n 1, 1) := by decide +kernel
theorem dX2_working_24 : decode cX2_working 24 = .ok (.aload_n 0, 1) := by decide +kernel
theorem dX2_working_25 : decode cX2_working 25 = .ok (.getfield 21, 3) := by decide +kernel
theorem dX2_working_28 : decode cX2_working 28 = .ok (.getfield 148, 3) := by decide +kernel
theorem dX2_working_31 : decode cX2_working 31 = .ok (.iload_n 2, 1) := by decide +kernel
theorem dX2_working_32 : decode cX2_working 32 = .ok (.iaload, 1) := by decide +kernel
theorem dX2_working_33 : decode cX2_working 33 = .ok (.ior, 1) := by decide +kernel
theorem dX2_working_34 : decode cX2_working 34 = .ok (.istore_n 1, 1) := by decide +kernel
theorem dX2_working_35 : decode cX2_working 35 = .ok (.iinc 2 1, 3) := by decide +kernel
theorem dX2_working_38 : decode cX2_working 38 = .ok (.goto (-34), 3) := by decide +kernel
theorem dX2_working_41 : decode cX2_working 41 = .ok (.iload_n 1, 1) := by decide +kernel
theorem dX2_working_42 : decode cX2_working 42 = .ok (.ireturn, 1) := by decide +kernel
theorem dX2_workplaceOf_0 : decode cX2_workplaceOf 0 = .ok (.iconst 0, 1) := by decide +kernel
theorem dX2_workplaceOf_1 : decode cX2_workplaceOf 1 = .ok (.istore_n 2, 1) := by decide +kernel
theorem dX2_workplaceOf_2 : decode cX2_workplaceOf 2 = .ok (.iload_n 2, 1) := by decide +kernel
theorem dX2_workplaceOf_3 : decode cX2_workplaceOf 3 = .ok (.aload_n 0, 1) := by decide +kernel
theorem dX2_workplaceOf_4 : decode cX2_workplaceOf 4 = .ok (.getfield 21, 3) := by decide +kernel
theorem dX2_workplaceOf_7 : decode cX2_workplaceOf 7 = .ok (.getfield 135, 3) := by decide +kernel
theorem dX2_workplaceOf_10 : decode cX2_workplaceOf 10 = .ok (.if_icmp .ge 31, 3) := by decide +kernel
theorem dX2_workplaceOf_13 : decode cX2_workplaceOf 13 = .ok (.aload_n 0, 1) := by decide +kernel
theorem dX2_workplaceOf_14 : decode cX2_workplaceOf 14 = .ok (.iload_n 2, 1) := by decide +kernel
theorem dX2_workplaceOf_15 : decode cX2_workplaceOf 15 = .ok (.invokevirtual 145, 3) := by decide +kernel
theorem dX2_workplaceOf_18 : decode cX2_workplaceOf 18 = .ok (.ifCond .eq 17, 3) := by decide +kernel
theorem dX2_workplaceOf_21 : decode cX2_workplaceOf 21 = .ok (.aload_n 0, 1) := by decide +kernel
theorem dX2_workplaceOf_22 : decode cX2_workplaceOf 22 = .ok (.getfield 21, 3) := by decide +kernel
theorem dX2_workplaceOf_25 : decode cX2_workplaceOf 25 = .ok (.iload_n 2, 1) := by decide +kernel
theorem dX2_workplaceOf_26 : decode cX2_workplaceOf 26 = .ok (.iload_n 1, 1) := by decide +kernel
theorem dX2_workplaceOf_27 : decode cX2_workplaceOf 27 = .ok (.invokevirtual 163, 3) := by decide +kernel
theorem dX2_workplaceOf_30 : decode cX2_workplaceOf 30 = .ok (.ifCond .eq 5, 3) := by decide +kernel
theorem dX2_workplaceOf_33 : decode cX2_workplaceOf 33 = .ok (.iload_n 2, 1) := by decide +kernel
theorem dX2_workplaceOf_34 : decode cX2_workplaceOf 34 = .ok (.ireturn, 1) := by decide +kernel
theorem dX2_workplaceOf_35 : decode cX2_workplaceOf 35 = .ok (.iinc 2 1, 3) := by decide +kernel
theorem dX2_workplaceOf_38 : decode cX2_workplaceOf 38 = .ok (.goto (-36), 3) := by decide +kernel
theorem dX2_workplaceOf_41 : decode cX2_workplaceOf 41 = .ok (.iconst (-1), 1) := by decide +kernel
theorem dX2_workplaceOf_42 : decode cX2_workplaceOf 42 = .ok (.ireturn, 1) := by decide +kernel
theorem dX2_ofInterpreter_0 : decode cX2_ofInterpreter 0 = .ok (.iload_n 2, 1) := by decide +kernel
theorem dX2_ofInterpreter_1 : decode cX2_ofInterpreter 1 = .ok (.tableswitch 122 0 7 #[47, 57, 67, 77, 87, 97, 106, 112], 47) := by decide +kernel
theorem dX2_ofInterpreter_48 : decode cX2_ofInterpreter 48 = .ok (.aload_n 0, 1) := by decide +kernel
theorem dX2_ofInterpreter_49 : decode cX2_ofInterpreter 49 = .ok (.getfield 12, 3) := by decide +kernel
theorem dX2_ofInterpreter_52 : decode cX2_ofInterpreter 52 = .ok (.getfield 167, 3) := by decide +kernel
theorem dX2_ofInterpreter_55 : decode cX2_ofInterpreter 55 = .ok (.iload_n 1, 1) := by decide +kernel
theorem dX2_ofInterpreter_56 : decode cX2_ofInterpreter 56 = .ok (.iaload, 1) := by decide +kernel
theorem dX2_ofInterpreter_57 : decode cX2_ofInterpreter 57 = .ok (.ireturn, 1) := by decide +kernel
theorem dX2_ofInterpreter_58 : decode cX2_ofInterpreter 58 = .ok (.aload_n 0, 1) := by decide +kernel
theorem dX2_ofInterpreter_59 : decode cX2_ofInterpreter 59 = .ok (.getfield 12, 3) := by decide +kernel
theorem dX2_ofInterpreter_62 : decode cX2_ofInterpreter 62 = .ok (.getfield 170, 3) := by decide +kernel
theorem dX2_ofInterpreter_65 : decode cX2_ofInterpreter 65 = .ok (.iload_n 1, 1) := by decide +kernel
theorem dX2_ofInterpreter_66 : decode cX2_ofInterpreter 66 = .ok (.iaload, 1) := by decide +kernel
theorem dX2_ofInterpreter_67 : decode cX2_ofInterpreter 67 = .ok (.ireturn, 1) := by decide +kernel
theorem dX2_ofInterpreter_68 : decode cX2_ofInterpreter 68 = .ok (.aload_n 0, 1) := by decide +kernel
theorem dX2_ofInterpreter_69 : decode cX2_ofInterpreter 69 = .ok (.getfield 12, 3) := by decide +kernel
theorem dX2_ofInterpreter_72 : decode cX2_ofInterpreter 72 = .ok (.getfield 97, 3) := by decide +kernel
theorem dX2_ofInterpreter_75 : decode cX2_ofInterpreter 75 = .ok (.iload_n 1, 1) := by decide +kernel
theorem dX2_ofInterpreter_76 : decode cX2_ofInterpreter 76 = .ok (.iaload, 1) := by decide +kernel
theorem dX2_ofInterpreter_77 : decode cX2_ofInterpreter 77 = .ok (.ireturn, 1) := by decide +kernel
theorem dX2_ofInterpreter_78 : decode cX2_ofInterpreter 78 = .ok (.aload_n 0, 1) := by decide +kernel
theorem dX2_ofInterpreter_79 : decode cX2_ofInterpreter 79 = .ok (.getfield 12, 3) := by decide +kernel
theorem dX2_ofInterpreter_82 : decode cX2_ofInterpreter 82 = .ok (.getfield 173, 3) := by decide +kernel
theorem dX2_ofInterpreter_85 : decode cX2_ofInterpreter 85 = .ok (.iload_n 1, 1) := by decide +kernel
theorem dX2_ofInterpreter_86 : decode cX2_ofInterpreter 86 = .ok (.iaload, 1) := by decide +kernel
theorem dX2_ofInterpreter_87 : decode cX2_ofInterpreter 87 = .ok (.ireturn, 1) := by decide +kernel
theorem dX2_ofInterpreter_88 : decode cX2_ofInterpreter 88 = .ok (.aload_n 0, 1) := by decide +kernel
theorem dX2_ofInterpreter_89 : decode cX2_ofInterpreter 89 = .ok (.getfield 12, 3) := by decide +kernel
theorem dX2_ofInterpreter_92 : decode cX2_ofInterpreter 92 = .ok (.getfield 176, 3) := by decide +kernel
theorem dX2_ofInterpreter_95 : decode cX2_ofInterpreter 95 = .ok (.iload_n 1, 1) := by decide +kernel
theorem dX2_ofInterpreter_96 : decode cX2_ofInterpreter 96 = .ok (.iaload, 1) := by decide +kernel
theorem dX2_ofInterpreter_97 : decode cX2_ofInterpreter 97 = .ok (.ireturn, 1) := by decide +kernel
theorem dX2_ofInterpreter_98 : decode cX2_ofInterpreter 98 = .ok (.aload_n 0, 1) := by decide +kernel
theorem dX2_ofInterpreter_99 : decode cX2_ofInterpreter 99 = .ok (.getfield 21, 3) := by decide +kernel
theorem dX2_ofInterpreter_102 : decode cX2_ofInterpreter 102 = .ok (.iload_n 1, 1) := by decide +kernel
theorem dX2_ofInterpreter_103 : decode cX2_ofInterpreter 103 = .ok (.invokevirtual 177, 3) := by decide +kernel
theorem dX2_ofInterpreter_106 : decode cX2_ofInterpreter 106 = .ok (.ireturn, 1) := by decide +kernel
theorem dX2_ofInterpreter_107 : decode cX2_ofInterpreter 107 = .ok (.aload_n 0, 1) := by decide +kernel
theorem dX2_ofInterpreter_108 : decode cX2_ofInterpreter 108 = .ok (.iload_n 1, 1) := by decide +kernel
theorem dX2_ofInterpreter_109 : decode cX2_ofInterpreter 109 = .ok (.invokevirtual 180, 3) := by decide +kernel
theorem dX2_ofInterpreter_112 : decode cX2_ofInterpreter 112 = .ok (.ireturn, 1) := by decide +kernel
theorem dX2_ofInterpreter_113 : decode cX2_ofInterpreter 113 = .ok (.aload_n 0, 1) := by decide +kernel
theorem dX2_ofInterpreter_114 : decode cX2_ofInterpreter 114 = .ok (.getfield 12, 3) := by decide +kernel
theorem dX2_ofInterpreter_117 : decode cX2_ofInterpreter 117 = .ok (.getfield 183, 3) := by decide +kernel
theorem dX2_ofInterpreter_120 : decode cX2_ofInterpreter 120 = .ok (.iload_n 1, 1) := by decide +kernel
theorem dX2_ofInterpreter_121 : decode cX2_ofInterpreter 121 = .ok (.iaload, 1) := by decide +kernel
theorem dX2_ofInterpreter_122 : decode cX2_ofInterpreter 122 = .ok (.ireturn, 1) := by decide +kernel
theorem dX2_ofInterpreter_123 : decode cX2_ofInterpreter 123 = .ok (.iconst (-1), 1) := by decide +kernel
theorem dX2_ofInterpreter_124 : decode cX2_ofInterpreter 124 = .ok (.ireturn, 1) := by decide +kernel
theorem dX2_ofHearing_0 : decode cX2_ofHearing 0 = .ok (.iload_n 2, 1) := by decide +kernel
theorem dX2_ofHearing_1 : decode cX2_ofHearing 1 = .ok (.tableswitch 194 0 11 #[63, 73, 83, 93, 103, 113, 123, 133, 143, 153, 160, 170], 63) := by decide +kernel
theorem dX2_ofHearing_64 : decode cX2_ofHearing 64 = .ok (.aload_n 0, 1) := by decide +kernel
theorem dX2_ofHearing_65 : decode cX2_ofHearing 65 = .ok (.getfield 21, 3) := by decide +kernel
theorem dX2_ofHearing_68 : decode cX2_ofHearing 68 = .ok (.getfield 84, 3) := by decide +kernel
theorem dX2_ofHearing_71 : decode cX2_ofHearing 71 = .ok (.iload_n 1, 1) := by decide +kernel
theorem dX2_ofHearing_72 : decode cX2_ofHearing 72 = .ok (.iaload, 1) := by decide +kernel
theorem dX2_ofHearing_73 : decode cX2_ofHearing 73 = .ok (.ireturn, 1) := by decide +kernel
theorem dX2_ofHearing_74 : decode cX2_ofHearing 74 = .ok (.aload_n 0, 1) := by decide +kernel
theorem dX2_ofHearing_75 : decode cX2_ofHearing 75 = .ok (.getfield 21, 3) := by decide +kernel
theorem dX2_ofHearing_78 : decode cX2_ofHearing 78 = .ok (.getfield 73, 3) := by decide +kernel
theorem dX2_ofHearing_81 : decode cX2_ofHearing 81 = .ok (.iload_n 1, 1) := by decide +kernel
theorem dX2_ofHearing_82 : decode cX2_ofHearing 82 = .ok (.iaload, 1) := by decide +kernel
theorem dX2_ofHearing_83 : decode cX2_ofHearing 83 = .ok (.ireturn, 1) := by decide +kernel
theorem dX2_ofHearing_84 : decode cX2_ofHearing 84 = .ok (.aload_n 0, 1) := by decide +kernel
theorem dX2_ofHearing_85 : decode cX2_ofHearing 85 = .ok (.getfield 21, 3) := by decide +kernel
theorem dX2_ofHearing_88 : decode cX2_ofHearing 88 = .ok (.getfield 63, 3) := by decide +kernel
theorem dX2_ofHearing_91 : decode cX2_ofHearing 91 = .ok (.iload_n 1, 1) := by decide +kernel
theorem dX2_ofHearing_92 : decode cX2_ofHearing 92 = .ok (.iaload, 1) := by decide +kernel
theorem dX2_ofHearing_93 : decode cX2_ofHearing 93 = .ok (.ireturn, 1) := by decide +kernel
theorem dX2_ofHearing_94 : decode cX2_ofHearing 94 = .ok (.aload_n 0, 1) := by decide +kernel
theorem dX2_ofHearing_95 : decode cX2_ofHearing 95 = .ok (.getfield 21, 3) := by decide +kernel
theorem dX2_ofHearing_98 : decode cX2_ofHearing 98 = .ok (.getfield 100, 3) := by decide +kernel
theorem dX2_ofHearing_101 : decode cX2_ofHearing 101 = .ok (.iload_n 1, 1) := by decide +kernel
theorem dX2_ofHearing_102 : decode cX2_ofHearing 102 = .ok (.iaload, 1) := by decide +kernel
theorem dX2_ofHearing_103 : decode cX2_ofHearing 103 = .ok (.ireturn, 1) := by decide +kernel
theorem dX2_ofHearing_104 : decode cX2_ofHearing 104 = .ok (.aload_n 0, 1) := by decide +kernel
theorem dX2_ofHearing_105 : decode cX2_ofHearing 105 = .ok (.getfield 21, 3) := by decide +kernel
theorem dX2_ofHearing_108 : decode cX2_ofHearing 108 = .ok (.getfield 127, 3) := by decide +kernel
theorem dX2_ofHearing_111 : decode cX2_ofHearing 111 = .ok (.iload_n 1, 1) := by decide +kernel
theorem dX2_ofHearing_112 : decode cX2_ofHearing 112 = .ok (.iaload, 1) := by decide +kernel
theorem dX2_ofHearing_113 : decode cX2_ofHearing 113 = .ok (.ireturn, 1) := by decide +kernel
theorem dX2_ofHearing_114 : decode cX2_ofHearing 114 = .ok (.aload_n 0, 1) := by decide +kernel
theorem dX2_ofHearing_115 : decode cX2_ofHearing 115 = .ok (.getfield 21, 3) := by decide +kernel
theorem dX2_ofHearing_118 : decode cX2_ofHearing 118 = .ok (.getfield 107, 3) := by decide +kernel
theorem dX2_ofHearing_121 : decode cX2_ofHearing 121 = .ok (.iload_n 1, 1) := by decide +kernel
theorem dX2_ofHearing_122 : decode cX2_ofHearing 122 = .ok (.iaload, 1) := by decide +kernel
theorem dX2_ofHearing_123 : decode cX2_ofHearing 123 = .ok (.ireturn, 1) := by decide +kernel
theorem dX2_ofHearing_124 : decode cX2_ofHearing 124 = .ok (.aload_n 0, 1) := by decide +kernel
theorem dX2_ofHearing_125 : decode cX2_ofHearing 125 = .ok (.getfield 21, 3) := by decide +kernel
theorem dX2_ofHearing_128 : decode cX2_ofHearing 128 = .ok (.iload_n 1, 1) := by decide +kernel
theorem dX2_ofHearing_129 : decode cX2_ofHearing 129 = .ok (.iconst 0, 1) := by decide +kernel
theorem dX2_ofHearing_130 : decode cX2_ofHearing 130 = .ok (.invokevirtual 103, 3) := by decide +kernel
theorem dX2_ofHearing_133 : decode cX2_ofHearing 133 = .ok (.ireturn, 1) := by decide +kernel
theorem dX2_ofHearing_134 : decode cX2_ofHearing 134 = .ok (.aload_n 0, 1) := by decide +kernel
theorem dX2_ofHearing_135 : decode cX2_ofHearing 135 = .ok (.getfield 21, 3) := by decide +kernel
theorem dX2_ofHearing_138 : decode cX2_ofHearing 138 = .ok (.iload_n 1, 1) := by decide +kernel
theorem dX2_ofHearing_139 : decode cX2_ofHearing 139 = .ok (.iconst 1, 1) := by decide +kernel
theorem dX2_ofHearing_140 : decode cX2_ofHearing 140 = .ok (.invokevirtual 103, 3) := by decide +kernel
theorem dX2_ofHearing_143 : decode cX2_ofHearing 143 = .ok (.ireturn, 1) := by decide +kernel
theorem dX2_ofHearing_144 : decode cX2_ofHearing 144 = .ok (.aload_n 0, 1) := by decide +kernel
theorem dX2_ofHearing_145 : decode cX2_ofHearing 145 = .ok (.getfield 21, 3) := by decide +kernel
theorem dX2_ofHearing_148 : decode cX2_ofHearing 148 = .ok (.iload_n 1, 1) := by decide +kernel
theorem dX2_ofHearing_149 : decode cX2_ofHearing 149 = .ok (.iconst 2, 1) := by decide +kernel
theorem dX2_ofHearing_150 : decode cX2_ofHearing 150 = .ok (.invokevirtual 103, 3) := by decide +kernel
theorem dX2_ofHearing_153 : decode cX2_ofHearing 153 = .ok (.ireturn, 1) := by decide +kernel
theorem dX2_ofHearing_154 : decode cX2_ofHearing 154 = .ok (.aload_n 0, 1) := by decide +kernel
theorem dX2_ofHearing_155 : decode cX2_ofHearing 155 = .ok (.iload_n 1, 1) := by decide +kernel
theorem dX2_ofHearing_156 : decode cX2_ofHearing 156 = .ok (.iconst 2, 1) := by decide +kernel
theorem dX2_ofHearing_157 : decode cX2_ofHearing 157 = .ok (.invokevirtual 120, 3) := by decide +kernel
theorem dX2_ofHearing_160 : decode cX2_ofHearing 160 = .ok (.ireturn, 1) := by decide +kernel
theorem dX2_ofHearing_161 : decode cX2_ofHearing 161 = .ok (.aload_n 0, 1) := by decide +kernel
theorem dX2_ofHearing_162 : decode cX2_ofHearing 162 = .ok (.getfield 21, 3) := by decide +kernel
theorem dX2_ofHearing_165 : decode cX2_ofHearing 165 = .ok (.getfield 130, 3) := by decide +kernel
theorem dX2_ofHearing_168 : decode cX2_ofHearing 168 = .ok (.iload_n 1, 1) := by decide +kernel
theorem dX2_ofHearing_169 : decode cX2_ofHearing 169 = .ok (.iaload, 1) := by decide +kernel
theorem dX2_ofHearing_170 : decode cX2_ofHearing 170 = .ok (.ireturn, 1) := by decide +kernel
theorem dX2_ofHearing_171 : decode cX2_ofHearing 171 = .ok (.aload_n 0, 1) := by decide +kernel
theorem dX2_ofHearing_172 : decode cX2_ofHearing 172 = .ok (.getfield 21, 3) := by decide +kernel
theorem dX2_ofHearing_175 : decode cX2_ofHearing 175 = .ok (.iload_n 1, 1) := by decide +kernel
theorem dX2_ofHearing_176 : decode cX2_ofHearing 176 = .ok (.invokevirtual 66, 3) := by decide +kernel
theorem dX2_ofHearing_179 : decode cX2_ofHearing 179 = .ok (.ifCond .eq 14, 3) := by decide +kernel
theorem dX2_ofHearing_182 : decode cX2_ofHearing 182 = .ok (.aload_n 0, 1) := by decide +kernel
theorem dX2_ofHearing_183 : decode cX2_ofHearing 183 = .ok (.getfield 21, 3) := by decide +kernel
theorem dX2_ofHearing_186 : decode cX2_ofHearing 186 = .ok (.iload_n 1, 1) := by decide +kernel
theorem dX2_ofHearing_187 : decode cX2_ofHearing 187 = .ok (.invokevirtual 186, 3) := by decide +kernel
theorem dX2_ofHearing_190 : decode cX2_ofHearing 190 = .ok (.goto 4, 3) := by decide +kernel
theorem dX2_ofHearing_193 : decode cX2_ofHearing 193 = .ok (.iconst 0, 1) := by decide +kernel
theorem dX2_ofHearing_194 : decode cX2_ofHearing 194 = .ok (.ireturn, 1) := by decide +kernel
theorem dX2_ofHearing_195 : decode cX2_ofHearing 195 = .ok (.iconst (-1), 1) := by decide +kernel
theorem dX2_ofHearing_196 : decode cX2_ofHearing 196 = .ok (.ireturn, 1) := by decide +kernel
theorem dX2_numberOf_0 : decode cX2_numberOf 0 = .ok (.iload_n 1, 1) := by decide +kernel
theorem dX2_numberOf_1 : decode cX2_numberOf 1 = .ok (.tableswitch 151 0 11 #[63, 71, 79, 84, 93, 101, 110, 119, 128, 133, 138, 143], 63) := by decide +kernel
theorem dX2_numberOf_64 : decode cX2_numberOf 64 = .ok (.aload_n 0, 1) := by decide +kernel
theorem dX2_numberOf_65 : decode cX2_numberOf 65 = .ok (.getfield 12, 3) := by decide +kernel
theorem dX2_numberOf_68 : decode cX2_numberOf 68 = .ok (.getfield 94, 3) := by decide +kernel
theorem dX2_numberOf_71 : decode cX2_numberOf 71 = .ok (.ireturn, 1) := by decide +kernel
theorem dX2_numberOf_72 : decode cX2_numberOf 72 = .ok (.aload_n 0, 1) := by decide +kernel
theorem dX2_numberOf_73 : decode cX2_numberOf 73 = .ok (.getfield 21, 3) := by decide +kernel
theorem dX2_numberOf_76 : decode cX2_numberOf 76 = .ok (.getfield 135, 3) := by decide +kernel
theorem dX2_numberOf_79 : decode cX2_numberOf 79 = .ok (.ireturn, 1) := by decide +kernel
theorem dX2_numberOf_80 : decode cX2_numberOf 80 = .ok (.aload_n 0, 1) := by decide +kernel
theorem dX2_numberOf_81 : decode cX2_numberOf 81 = .ok (.getfield 50, 3) := by decide +kernel
theorem dX2_numberOf_84 : decode cX2_numberOf 84 = .ok (.ireturn, 1) := by decide +kernel
theorem dX2_numberOf_85 : decode cX2_numberOf 85 = .ok (.aload_n 0, 1) := by decide +kernel
theorem dX2_numberOf_86 : decode cX2_numberOf 86 = .ok (.getfield 21, 3) := by decide +kernel
theorem dX2_numberOf_89 : decode cX2_numberOf 89 = .ok (.iconst 0, 1) := by decide +kernel
theorem dX2_numberOf_90 : decode cX2_numberOf 90 = .ok (.invokevirtual 189, 3) := by decide +kernel
theorem dX2_numberOf_93 : decode cX2_numberOf 93 = .ok (.ireturn, 1) := by decide +kernel
theorem dX2_numberOf_94 : decode cX2_numberOf 94 = .ok (.aload_n 0, 1) := by decide +kernel
theorem dX2_numberOf_95 : decode cX2_numberOf 95 = .ok (.getfield 21, 3) := by decide +kernel
theorem dX2_numberOf_98 : decode cX2_numberOf 98 = .ok (.invokevirtual 192, 3) := by decide +kernel
theorem dX2_numberOf_101 : decode cX2_numberOf 101 = .ok (.ireturn, 1) := by decide +kernel
theorem dX2_numberOf_102 : decode cX2_numberOf 102 = .ok (.aload_n 0, 1) := by decide +kernel
theorem dX2_numberOf_103 : decode cX2_numberOf 103 = .ok (.getfield 21, 3) := by decide +kernel
theorem dX2_numberOf_106 : decode cX2_numberOf 106 = .ok (.iconst 1, 1) := by decide +kernel
theorem dX2_numberOf_107 : decode cX2_numberOf 107 = .ok (.invokevirtual 189, 3) := by decide +kernel
theorem dX2_numberOf_110 : decode cX2_numberOf 110 = .ok (.ireturn, 1) := by decide +kernel
theorem dX2_numberOf_111 : decode cX2_numberOf 111 = .ok (.aload_n 0, 1) := by decide +kernel
theorem dX2_numberOf_112 : decode cX2_numberOf 112 = .ok (.getfield 21, 3) := by decide +kernel
theorem dX2_numberOf_115 : decode cX2_numberOf 115 = .ok (.iconst 2, 1) := by decide +kernel
theorem dX2_numberOf_116 : decode cX2_numberOf 116 = .ok (.invokevirtual 189, 3) := by decide +kernel
theorem dX2_numberOf_119 : decode cX2_numberOf 119 = .ok (.ireturn, 1) := by decide +kernel
theorem dX2_numberOf_120 : decode cX2_numberOf 120 = .ok (.aload_n 0, 1) := by decide +kernel
theorem dX2_numberOf_121 : decode cX2_numberOf 121 = .ok (.getfield 21, 3) := by decide +kernel
theorem dX2_numberOf_124 : decode cX2_numberOf 124 = .ok (.iconst 3, 1) := by decide +kernel
theorem dX2_numberOf_125 : decode cX2_numberOf 125 = .ok (.invokevirtual 189, 3) := by decide +kernel
theorem dX2_numberOf_128 : decode cX2_numberOf 128 = .ok (.ireturn, 1) := by decide +kernel
theorem dX2_numberOf_129 : decode cX2_numberOf 129 = .ok (.aload_n 0, 1) := by decide +kernel
theorem dX2_numberOf_130 : decode cX2_numberOf 130 = .ok (.getfield 54, 3) := by decide +kernel
theorem dX2_numberOf_133 : decode cX2_numberOf 133 = .ok (.ireturn, 1) := by decide +kernel
theorem dX2_numberOf_134 : decode cX2_numberOf 134 = .ok (.aload_n 0, 1) := by decide +kernel
theorem dX2_numberOf_135 : decode cX2_numberOf 135 = .ok (.getfield 57, 3) := by decide +kernel
theorem dX2_numberOf_138 : decode cX2_numberOf 138 = .ok (.ireturn, 1) := by decide +kernel
theorem dX2_numberOf_139 : decode cX2_numberOf 139 = .ok (.aload_n 0, 1) := by decide +kernel
theorem dX2_numberOf_140 : decode cX2_numberOf 140 = .ok (.getfield 60, 3) := by decide +kernel
theorem dX2_numberOf_143 : decode cX2_numberOf 143 = .ok (.ireturn, 1) := by decide +kernel
theorem dX2_numberOf_144 : decode cX2_numberOf 144 = .ok (.aload_n 0, 1) := by decide +kernel
theorem dX2_numberOf_145 : decode cX2_numberOf 145 = .ok (.invokevirtual 196, 3) := by decide +kernel
theorem dX2_numberOf_148 : decode cX2_numberOf 148 = .ok (.invokestatic 199, 3) := by decide +kernel
theorem dX2_numberOf_151 : decode cX2_numberOf 151 = .ok (.ireturn, 1) := by decide +kernel
theorem dX2_numberOf_152 : decode cX2_numberOf 152 = .ok (.iconst (-1), 1) := by decide +kernel
theorem dX2_numberOf_153 : decode cX2_numberOf 153 = .ok (.ireturn, 1) := by decide +kernel
theorem dX3_init_0 : decode cX3_init 0 = .ok (.aload_n 0, 1) := by decide +kernel
theorem dX3_init_1 : decode cX3_init 1 = .ok (.invokespecial 3, 3) := by decide +kernel
theorem dX3_init_4 : decode cX3_init 4 = .ok (.aload_n 0, 1) := by decide +kernel
theorem dX3_init_5 : decode cX3_init 5 = .ok (.bipush 30, 2) := by decide +kernel
theorem dX3_init_7 : decode cX3_init 7 = .ok (.newarray .int, 2) := by decide +kernel
theorem dX3_init_9 : decode cX3_init 9 = .ok (.putfield 9, 3) := by decide +kernel
theorem dX3_init_12 : decode cX3_init 12 = .ok (.aload_n 0, 1) := by decide +kernel
theorem dX3_init_13 : decode cX3_init 13 = .ok (.bipush 30, 2) := by decide +kernel
theorem dX3_init_15 : decode cX3_init 15 = .ok (.newarray .int, 2) := by decide +kernel
theorem dX3_init_17 : decode cX3_init 17 = .ok (.putfield 15, 3) := by decide +kernel
theorem dX3_init_20 : decode cX3_init 20 = .ok (.aload_n 0, 1) := by decide +kernel
theorem dX3_init_21 : decode cX3_init 21 = .ok (.bipush 30, 2) := by decide +kernel
theorem dX3_init_23 : decode cX3_init 23 = .ok (.newarray .int, 2) := by decide +kernel
theorem dX3_init_25 : decode cX3_init 25 = .ok (.putfield 18, 3) := by decide +kernel
theorem dX3_init_28 : decode cX3_init 28 = .ok (.aload_n 0, 1) := by decide +kernel
theorem dX3_init_29 : decode cX3_init 29 = .ok (.bipush 30, 2) := by decide +kernel
theorem dX3_init_31 : decode cX3_init 31 = .ok (.newarray .int, 2) := by decide +kernel
theorem dX3_init_33 : decode cX3_init 33 = .ok (.putfield 21, 3) := by decide +kernel
theorem dX3_init_36 : decode cX3_init 36 = .ok (.aload_n 0, 1) := by decide +kernel
theorem dX3_init_37 : decode cX3_init 37 = .ok (.bipush 30, 2) := by decide +kernel
theorem dX3_init_39 : decode cX3_init 39 = .ok (.newarray .int, 2) := by decide +kernel
theorem dX3_init_41 : decode cX3_init 41 = .ok (.putfield 24, 3) := by decide +kernel
theorem dX3_init_44 : decode cX3_init 44 = .ok (.aload_n 0, 1) := by decide +kernel
theorem dX3_init_45 : decode cX3_init 45 = .ok (.bipush 30, 2) := by decide +kernel
theorem dX3_init_47 : decode cX3_init 47 = .ok (.newarray .int, 2) := by decide +kernel
theorem dX3_init_49 : decode cX3_init 49 = .ok (.putfield 27, 3) := by decide +kernel
theorem dX3_init_52 : decode cX3_init 52 = .ok (.aload_n 0, 1) := by decide +kernel
theorem dX3_init_53 : decode cX3_init 53 = .ok (.bipush 30, 2) := by decide +kernel
theorem dX3_init_55 : decode cX3_init 55 = .ok (.newarray .int, 2) := by decide +kernel
theorem dX3_init_57 : decode cX3_init 57 = .ok (.putfield 30, 3) := by decide +kernel
theorem dX3_init_60 : decode cX3_init 60 = .ok (.aload_n 0, 1) := by decide +kernel
theorem dX3_init_61 : decode cX3_init 61 = .ok (.bipush 30, 2) := by decide +kernel
theorem dX3_init_63 : decode cX3_init 63 = .ok (.newarray .int, 2) := by decide +kernel
theorem dX3_init_65 : decode cX3_init 65 = .ok (.putfield 33, 3) := by decide +kernel
theorem dX3_init_68 : decode cX3_init 68 = .ok (.aload_n 0, 1) := by decide +kernel
theorem dX3_init_69 : decode cX3_init 69 = .ok (.bipush 90, 2) := by decide +kernel
theorem dX3_init_71 : decode cX3_init 71 = .ok (.newarray .int, 2) := by decide +kernel
theorem dX3_init_73 : decode cX3_init 73 = .ok (.putfield 36, 3) := by decide +kernel
theorem dX3_init_76 : decode cX3_init 76 = .ok (.return_, 1) := by decide +kernel
theorem dX3_copyFrom_0 : decode cX3_copyFrom 0 = .ok (.aload_n 0, 1) := by decide +kernel
theorem dX3_copyFrom_1 : decode cX3_copyFrom 1 = .ok (.aload_n 1, 1) := by decide +kernel
theorem dX3_copyFrom_2 : decode cX3_copyFrom 2 = .ok (.getfield 39, 3) := by decide +kernel
theorem dX3_copyFrom_5 : decode cX3_copyFrom 5 = .ok (.putfield 39, 3) := by decide +kernel
theorem dX3_copyFrom_8 : decode cX3_copyFrom 8 = .ok (.aload_n 1, 1) := by decide +kernel
theorem dX3_copyFrom_9 : decode cX3_copyFrom 9 = .ok (.getfield 9, 3) := by decide +kernel
theorem dX3_copyFrom_12 : decode cX3_copyFrom 12 = .ok (.iconst 0, 1) := by decide +kernel
theorem dX3_copyFrom_13 : decode cX3_copyFrom 13 = .ok (.aload_n 0, 1) := by decide +kernel
theorem dX3_copyFrom_14 : decode cX3_copyFrom 14 = .ok (.getfield 9, 3) := by decide +kernel
theorem dX3_copyFrom_17 : decode cX3_copyFrom 17 = .ok (.iconst 0, 1) := by decide +kernel
theorem dX3_copyFrom_18 : decode cX3_copyFrom 18 = .ok (.bipush 30, 2) := by decide +kernel
theorem dX3_copyFrom_20 : decode cX3_copyFrom 20 = .ok (.invokestatic 43, 3) := by decide +kernel
theorem dX3_copyFrom_23 : decode cX3_copyFrom 23 = .ok (.aload_n 1, 1) := by decide +kernel
theorem dX3_copyFrom_24 : decode cX3_copyFrom 24 = .ok (.getfield 15, 3) := by decide +kernel
theorem dX3_copyFrom_27 : decode cX3_copyFrom 27 = .ok (.iconst 0, 1) := by decide +kernel
theorem dX3_copyFrom_28 : decode cX3_copyFrom 28 = .ok (.aload_n 0, 1) := by decide +kernel
theorem dX3_copyFrom_29 : decode cX3_copyFrom 29 = .ok (.getfield 15, 3) := by decide +kernel
theorem dX3_copyFrom_32 : decode cX3_copyFrom 32 = .ok (.iconst 0, 1) := by decide +kernel
theorem dX3_copyFrom_33 : decode cX3_copyFrom 33 = .ok (.bipush 30, 2) := by decide +kernel
theorem dX3_copyFrom_35 : decode cX3_copyFrom 35 = .ok (.invokestatic 43, 3) := by decide +kernel
theorem dX3_copyFrom_38 : decode cX3_copyFrom 38 = .ok (.aload_n 1, 1) := by decide +kernel
theorem dX3_copyFrom_39 : decode cX3_copyFrom 39 = .ok (.getfield 18, 3) := by decide +kernel
theorem dX3_copyFrom_42 : decode cX3_copyFrom 42 = .ok (.iconst 0, 1) := by decide +kernel
theorem dX3_copyFrom_43 : decode cX3_copyFrom 43 = .ok (.aload_n 0, 1) := by decide +kernel
theorem dX3_copyFrom_44 : decode cX3_copyFrom 44 = .ok (.getfield 18, 3) := by decide +kernel
theorem dX3_copyFrom_47 : decode cX3_copyFrom 47 = .ok (.iconst 0, 1) := by decide +kernel
theorem dX3_copyFrom_48 : decode cX3_copyFrom 48 = .ok (.bipush 30, 2) := by decide +kernel
theorem dX3_copyFrom_50 : decode cX3_copyFrom 50 = .ok (.invokestatic 43, 3) := by decide +kernel
theorem dX3_copyFrom_53 : decode cX3_copyFrom 53 = .ok (.aload_n 1, 1) := by decide +kernel
theorem dX3_copyFrom_54 : decode cX3_copyFrom 54 = .ok (.getfield 21, 3) := by decide +kernel
theorem dX3_copyFrom_57 : decode cX3_copyFrom 57 = .ok (.iconst 0, 1) := by decide +kernel
theorem dX3_copyFrom_58 : decode cX3_copyFrom 58 = .ok (.aload_n 0, 1) := by decide +kernel
theorem dX3_copyFrom_59 : decode cX3_copyFrom 59 = .ok (.getfield 21, 3) := by decide +kernel
theorem dX3_copyFrom_62 : decode cX3_copyFrom 62 = .ok (.iconst 0, 1) := by decide +kernel
theorem dX3_copyFrom_63 : decode cX3_copyFrom 63 = .ok (.bipush 30, 2) := by decide +kernel
theorem dX3_copyFrom_65 : decode cX3_copyFrom 65 = .ok (.invokestatic 43, 3) := by decide +kernel
theorem dX3_copyFrom_68 : decode cX3_copyFrom 68 = .ok (.aload_n 1, 1) := by decide +kernel
theorem dX3_copyFrom_69 : decode cX3_copyFrom 69 = .ok (.getfield 24, 3) := by decide +kernel
theorem dX3_copyFrom_72 : decode cX3_copyFrom 72 = .ok (.iconst 0, 1) := by decide +kernel
theorem dX3_copyFrom_73 : decode cX3_copyFrom 73 = .ok (.aload_n 0, 1) := by decide +kernel
theorem dX3_copyFrom_74 : decode cX3_copyFrom 74 = .ok (.getfield 24, 3) := by decide +kernel
theorem dX3_copyFrom_77 : decode cX3_copyFrom 77 = .ok (.iconst 0, 1) := by decide +kernel
theorem dX3_copyFrom_78 : decode cX3_copyFrom 78 = .ok (.bipush 30, 2) := by decide +kernel
theorem dX3_copyFrom_80 : decode cX3_copyFrom 80 = .ok (.invokestatic 43, 3) := by decide +kernel
theorem dX3_copyFrom_83 : decode cX3_copyFrom 83 = .ok (.aload_n 1, 1) := by decide +kernel
theorem dX3_copyFrom_84 : decode cX3_copyFrom 84 = .ok (.getfield 27, 3) := by decide +kernel
theorem dX3_copyFrom_87 : decode cX3_copyFrom 87 = .ok (.iconst 0, 1) := by decide +kernel
theorem dX3_copyFrom_88 : decode cX3_copyFrom 88 = .ok (.aload_n 0, 1) := by decide +kernel
theorem dX3_copyFrom_89 : decode cX3_copyFrom 89 = .ok (.getfield 27, 3) := by decide +kernel
theorem dX3_copyFrom_92 : decode cX3_copyFrom 92 = .ok (.iconst 0, 1) := by decide +kernel
theorem dX3_copyFrom_93 : decode cX3_copyFrom 93 = .ok (.bipush 30, 2) := by decide +kernel
theorem dX3_copyFrom_95 : decode cX3_copyFrom 95 = .ok (.invokestatic 43, 3) := by decide +kernel
theorem dX3_copyFrom_98 : decode cX3_copyFrom 98 = .ok (.aload_n 1, 1) := by decide +kernel
theorem dX3_copyFrom_99 : decode cX3_copyFrom 99 = .ok (.getfield 30, 3) := by decide +kernel
theorem dX3_copyFrom_102 : decode cX3_copyFrom 102 = .ok (.iconst 0, 1) := by decide +kernel
theorem dX3_copyFrom_103 : decode cX3_copyFrom 103 = .ok (.aload_n 0, 1) := by decide +kernel
theorem dX3_copyFrom_104 : decode cX3_copyFrom 104 = .ok (.getfield 30, 3) := by decide +kernel
theorem dX3_copyFrom_107 : decode cX3_copyFrom 107 = .ok (.iconst 0, 1) := by decide +kernel
theorem dX3_copyFrom_108 : decode cX3_copyFrom 108 = .ok (.bipush 30, 2) := by decide +kernel
theorem dX3_copyFrom_110 : decode cX3_copyFrom 110 = .ok (.invokestatic 43, 3) := by decide +kernel
theorem dX3_copyFrom_113 : decode cX3_copyFrom 113 = .ok (.aload_n 1, 1) := by decide +kernel
theorem dX3_copyFrom_114 : decode cX3_copyFrom 114 = .ok (.getfield 33, 3) := by decide +kernel
theorem dX3_copyFrom_117 : decode cX3_copyFrom 117 = .ok (.iconst 0, 1) := by decide +kernel
theorem dX3_copyFrom_118 : decode cX3_copyFrom 118 = .ok (.aload_n 0, 1) := by decide +kernel
theorem dX3_copyFrom_119 : decode cX3_copyFrom 119 = .ok (.getfield 33, 3) := by decide +kernel
theorem dX3_copyFrom_122 : decode cX3_copyFrom 122 = .ok (.iconst 0, 1) := by decide +kernel
theorem dX3_copyFrom_123 : decode cX3_copyFrom 123 = .ok (.bipush 30, 2) := by decide +kernel
theorem dX3_copyFrom_125 : decode cX3_copyFrom 125 = .ok (.invokestatic 43, 3) := by decide +kernel
theorem dX3_copyFrom_128 : decode cX3_copyFrom 128 = .ok (.aload_n 1, 1) := by decide +kernel
theorem dX3_copyFrom_129 : decode cX3_copyFrom 129 = .ok (.getfield 36, 3) := by decide +kernel
theorem dX3_copyFrom_132 : decode cX3_copyFrom 132 = .ok (.iconst 0, 1) := by decide +kernel
theorem dX3_copyFrom_133 : decode cX3_copyFrom 133 = .ok (.aload_n 0, 1) := by decide +kernel
theorem dX3_copyFrom_134 : decode cX3_copyFrom 134 = .ok (.getfield 36, 3) := by decide +kernel
theorem dX3_copyFrom_137 : decode cX3_copyFrom 137 = .ok (.iconst 0, 1) := by decide +kernel
theorem dX3_copyFrom_138 : decode cX3_copyFrom 138 = .ok (.bipush 90, 2) := by decide +kernel
theorem dX3_copyFrom_140 : decode cX3_copyFrom 140 = .ok (.invokestatic 43, 3) := by decide +kernel
theorem dX3_copyFrom_143 : decode cX3_copyFrom 143 = .ok (.return_, 1) := by decide +kernel
theorem dX3_has_0 : decode cX3_has 0 = .ok (.iload_n 1, 1) := by decide +kernel
theorem dX3_has_1 : decode cX3_has 1 = .ok (.ifCond .lt 15, 3) := by decide +kernel
theorem dX3_has_4 : decode cX3_has 4 = .ok (.iload_n 1, 1) := by decide +kernel
theorem dX3_has_5 : decode cX3_has 5 = .ok (.aload_n 0, 1) := by decide +kernel
theorem dX3_has_6 : decode cX3_has 6 = .ok (.getfield 39, 3) := by decide +kernel
theorem dX3_has_9 : decode cX3_has 9 = .ok (.if_icmp .ge 7, 3) := by decide +kernel
theorem dX3_has_12 : decode cX3_has 12 = .ok (.iconst 1, 1) := by decide +kernel
theorem dX3_has_13 : decode cX3_has 13 = .ok (.goto 4, 3) := by decide +kernel
theorem dX3_has_16 : decode cX3_has 16 = .ok (.iconst 0, 1) := by decide +kernel
theorem dX3_has_17 : decode cX3_has 17 = .ok (.ireturn, 1) := by decide +kernel
theorem dX3_enter_0 : decode cX3_enter 0 = .ok (.aload_n 0, 1) := by decide +kernel
theorem dX3_enter_1 : decode cX3_enter 1 = .ok (.getfield 39, 3) := by decide +kernel
theorem dX3_enter_4 : decode cX3_enter 4 = .ok (.bipush 30, 2) := by decide +kernel
theorem dX3_enter_6 : decode cX3_enter 6 = .ok (.if_icmp .lt 5, 3) := by decide +kernel
theorem dX3_enter_9 : decode cX3_enter 9 = .ok (.iconst (-1), 1) := by decide +kernel
theorem dX3_enter_10 : decode cX3_enter 10 = .ok (.ireturn, 1) := by decide +kernel
theorem dX3_enter_11 : decode cX3_enter 11 = .ok (.aload_n 0, 1) := by decide +kernel
theorem dX3_enter_12 : decode cX3_enter 12 = .ok (.getfield 9, 3) := by decide +kernel
theorem dX3_enter_15 : decode cX3_enter 15 = .ok (.aload_n 0, 1) := by decide +kernel
theorem dX3_enter_16 : decode cX3_enter 16 = .ok (.getfield 39, 3) := by decide +kernel
theorem dX3_enter_19 : decode cX3_enter 19 = .ok (.iload_n 1, 1) := by decide +kernel
theorem dX3_enter_20 : decode cX3_enter 20 = .ok (.iastore, 1) := by decide +kernel
theorem dX3_enter_21 : decode cX3_enter 21 = .ok (.aload_n 0, 1) := by decide +kernel
theorem dX3_enter_22 : decode cX3_enter 22 = .ok (.getfield 15, 3) := by decide +kernel
theorem dX3_enter_25 : decode cX3_enter 25 = .ok (.aload_n 0, 1) := by decide +kernel
theorem dX3_enter_26 : decode cX3_enter 26 = .ok (.getfield 39, 3) := by decide +kernel
theorem dX3_enter_29 : decode cX3_enter 29 = .ok (.iload_n 2, 1) := by decide +kernel
theorem dX3_enter_30 : decode cX3_enter 30 = .ok (.iastore, 1) := by decide +kernel
theorem dX3_enter_31 : decode cX3_enter 31 = .ok (.aload_n 0, 1) := by decide +kernel
theorem dX3_enter_32 : decode cX3_enter 32 = .ok (.getfield 18, 3) := by decide +kernel
theorem dX3_enter_35 : decode cX3_enter 35 = .ok (.aload_n 0, 1) := by decide +kernel
theorem dX3_enter_36 : decode cX3_enter 36 = .ok (.getfield 39, 3) := by decide +kernel
theorem dX3_enter_39 : decode cX3_enter 39 = .ok (.iload_n 3, 1) := by decide +kernel
theorem dX3_enter_40 : decode cX3_enter 40 = .ok (.iastore, 1) := by decide +kernel
theorem dX3_enter_41 : decode cX3_enter 41 = .ok (.aload_n 0, 1) := by decide +kernel
theorem dX3_enter_42 : decode cX3_enter 42 = .ok (.getfield 21, 3) := by decide +kernel
theorem dX3_enter_45 : decode cX3_enter 45 = .ok (.aload_n 0, 1) := by decide +kernel
theorem dX3_enter_46 : decode cX3_enter 46 = .ok (.getfield 39, 3) := by decide +kernel
theorem dX3_enter_49 : decode cX3_enter 49 = .ok (.iload 4, 2) := by decide +kernel
theorem dX3_enter_51 : decode cX3_enter 51 = .ok (.iastore, 1) := by decide +kernel
theorem dX3_enter_52 : decode cX3_enter 52 = .ok (.aload_n 0, 1) := by decide +kernel
theorem dX3_enter_53 : decode cX3_enter 53 = .ok (.getfield 24, 3) := by decide +kernel
theorem dX3_enter_56 : decode cX3_enter 56 = .ok (.aload_n 0, 1) := by decide +kernel
theorem dX3_enter_57 : decode cX3_enter 57 = .ok (.getfield 39, 3) := by decide +kernel
theorem dX3_enter_60 : decode cX3_enter 60 = .ok (.iconst 0, 1) := by decide +kernel
theorem dX3_enter_61 : decode cX3_enter 61 = .ok (.iastore, 1) := by decide +kernel
theorem dX3_enter_62 : decode cX3_enter 62 = .ok (.aload_n 0, 1) := by decide +kernel
theorem dX3_enter_63 : decode cX3_enter 63 = .ok (.getfield 30, 3) := by decide +kernel
theorem dX3_enter_66 : decode cX3_enter 66 = .ok (.aload_n 0, 1) := by decide +kernel
theorem dX3_enter_67 : decode cX3_enter 67 = .ok (.getfield 39, 3) := by decide +kernel
theorem dX3_enter_70 : decode cX3_enter 70 = .ok (.iconst 0, 1) := by decide +kernel
theorem dX3_enter_71 : decode cX3_enter 71 = .ok (.iastore, 1) := by decide +kernel
theorem dX3_enter_72 : decode cX3_enter 72 = .ok (.aload_n 0, 1) := by decide +kernel
theorem dX3_enter_73 : decode cX3_enter 73 = .ok (.dup, 1) := by decide +kernel
theorem dX3_enter_74 : decode cX3_enter 74 = .ok (.getfield 39, 3) := by decide +kernel
theorem dX3_enter_77 : decode cX3_enter 77 = .ok (.iconst 1, 1) := by decide +kernel
theorem dX3_enter_78 : decode cX3_enter 78 = .ok (.iadd, 1) := by decide +kernel
theorem dX3_enter_79 : decode cX3_enter 79 = .ok (.putfield 39, 3) := by decide +kernel
theorem dX3_enter_82 : decode cX3_enter 82 = .ok (.aload_n 0, 1) := by decide +kernel
theorem dX3_enter_83 : decode cX3_enter 83 = .ok (.aload_n 0, 1) := by decide +kernel
theorem dX3_enter_84 : decode cX3_enter 84 = .ok (.getfield 39, 3) := by decide +kernel
theorem dX3_enter_87 : decode cX3_enter 87 = .ok (.iconst 1, 1) := by decide +kernel
theorem dX3_enter_88 : decode cX3_enter 88 = .ok (.isub, 1) := by decide +kernel
theorem dX3_enter_89 : decode cX3_enter 89 = .ok (.iconst (-1), 1) := by decide +kernel
theorem dX3_enter_90 : decode cX3_enter 90 = .ok (.iconst (-1), 1) := by decide +kernel
theorem dX3_enter_91 : decode cX3_enter 91 = .ok (.iconst (-1), 1) := by decide +kernel
theorem dX3_enter_92 : decode cX3_enter 92 = .ok (.invokevirtual 49, 3) := by decide +kernel
theorem dX3_enter_95 : decode cX3_enter 95 = .ok (.aload_n 0, 1) := by decide +kernel
theorem dX3_enter_96 : decode cX3_enter 96 = .ok (.getfield 39, 3) := by decide +kernel
theorem dX3_enter_99 : decode cX3_enter 99 = .ok (.iconst 1, 1) := by decide +kernel
theorem dX3_enter_100 : decode cX3_enter 100 = .ok (.isub, 1) := by decide +kernel
theorem dX3_enter_101 : decode cX3_enter 101 = .ok (.ireturn, 1) := by decide +kernel
theorem dX3_isListed_0 : decode cX3_isListed 0 = .ok (.aload_n 0, 1) := by decide +kernel
theorem dX3_isListed_1 : decode cX3_isListed 1 = .ok (.getfield 24, 3) := by decide +kernel
theorem dX3_isListed_4 : decode cX3_isListed 4 = .ok (.iload_n 1, 1) := by decide +kernel
theorem dX3_isListed_5 : decode cX3_isListed 5 = .ok (.iaload, 1) := by decide +kernel
theorem dX3_isListed_6 : decode cX3_isListed 6 = .ok (.ifCond .ne 7, 3) := by decide +kernel
theorem dX3_isListed_9 : decode cX3_isListed 9 = .ok (.iconst 1, 1) := by decide +kernel
theorem dX3_isListed_10 : decode cX3_isListed 10 = .ok (.goto 4, 3) := by decide +kernel
theorem dX3_isListed_13 : decode cX3_isListed 13 = .ok (.iconst 0, 1) := by decide +kernel
theorem dX3_isListed_14 : decode cX3_isListed 14 = .ok (.ireturn, 1) := by decide +kernel
theorem dX3_end_0 : decode cX3_end 0 = .ok (.aload_n 0, 1) := by decide +kernel
theorem dX3_end_1 : decode cX3_end 1 = .ok (.getfield 18, 3) := by decide +kernel
theorem dX3_end_4 : decode cX3_end 4 = .ok (.iload_n 1, 1) := by decide +kernel
theorem dX3_end_5 : decode cX3_end 5 = .ok (.iaload, 1) := by decide +kernel
theorem dX3_end_6 : decode cX3_end 6 = .ok (.aload_n 0, 1) := by decide +kernel
theorem dX3_end_7 : decode cX3_end 7 = .ok (.getfield 21, 3) := by decide +kernel
theorem dX3_end_10 : decode cX3_end 10 = .ok (.iload_n 1, 1) := by decide +kernel
theorem dX3_end_11 : decode cX3_end 11 = .ok (.iaload, 1) := by decide +kernel
theorem dX3_end_12 : decode cX3_end 12 = .ok (.iadd, 1) := by decide +kernel
theorem dX3_end_13 : decode cX3_end 13 = .ok (.ireturn, 1) := by decide +kernel
theorem dX3_member_0 : decode cX3_member 0 = .ok (.iload_n 1, 1) := by decide +kernel
theorem dX3_member_1 : decode cX3_member 1 = .ok (.ifCond .lt 20, 3) := by decide +kernel
theorem dX3_member_4 : decode cX3_member 4 = .ok (.iload_n 1, 1) := by decide +kernel
theorem dX3_member_5 : decode cX3_member 5 = .ok (.aload_n 0, 1) := by decide +kernel
theorem dX3_member_6 : decode cX3_member 6 = .ok (.getfield 39, 3) := by decide +kernel
theorem dX3_member_9 : decode cX3_member 9 = .ok (.if_icmp .ge 12, 3) := by decide +kernel
theorem dX3_member_12 : decode cX3_member 12 = .ok (.iload_n 2, 1) := by decide +kernel
theorem dX3_member_13 : decode cX3_member 13 = .ok (.ifCond .lt 8, 3) := by decide +kernel
theorem dX3_member_16 : decode cX3_member 16 = .ok (.iload_n 2, 1) := by decide +kernel
theorem dX3_member_17 : decode cX3_member 17 = .ok (.iconst 3, 1) := by decide +kernel
theorem dX3_member_18 : decode cX3_member 18 = .ok (.if_icmp .lt 5, 3) := by decide +kernel
theorem dX3_member_21 : decode cX3_member 21 = .ok (.iconst (-1), 1) := by decide +kernel
theorem dX3_member_22 : decode cX3_member 22 = .ok (.ireturn, 1) := by decide +kernel
theorem dX3_member_23 : decode cX3_member 23 = .ok (.aload_n 0, 1) := by decide +kernel
theorem dX3_member_24 : decode cX3_member 24 = .ok (.getfield 36, 3) := by decide +kernel
theorem dX3_member_27 : decode cX3_member 27 = .ok (.iload_n 1, 1) := by decide +kernel
theorem dX3_member_28 : decode cX3_member 28 = .ok (.iconst 3, 1) := by decide +kernel
theorem dX3_member_29 : decode cX3_member 29 = .ok (.imul, 1) := by decide +kernel
theorem dX3_member_30 : decode cX3_member 30 = .ok (.iload_n 2, 1) := by decide +kernel
theorem dX3_member_31 : decode cX3_member 31 = .ok (.iadd, 1) := by decide +kernel
theorem dX3_member_32 : decode cX3_member 32 = .ok (.iaload, 1) := by decide +kernel
theorem dX3_member_33 : decode cX3_member 33 = .ok (.ireturn, 1) := by decide +kernel
theorem dX3_holds_0 : decode cX3_holds 0 = .ok (.aload_n 0, 1) := by decide +kernel
theorem dX3_holds_1 : decode cX3_holds 1 = .ok (.getfield 33, 3) := by decide +kernel
theorem dX3_holds_4 : decode cX3_holds 4 = .ok (.iload_n 1, 1) := by decide +kernel
theorem dX3_holds_5 : decode cX3_holds 5 = .ok (.iaload, 1) := by decide +kernel
theorem dX3_holds_6 : decode cX3_holds 6 = .ok (.iload_n 2, 1) := by decide +kernel
theorem dX3_holds_7 : decode cX3_holds 7 = .ok (.invokestatic 53, 3) := by decide +kernel
theorem dX3_holds_10 : decode cX3_holds 10 = .ok (.iand, 1) := by decide +kernel
theorem dX3_holds_11 : decode cX3_holds 11 = .ok (.ifCond .eq 7, 3) := by decide +kernel
theorem dX3_holds_14 : decode cX3_holds 14 = .ok (.iconst 1, 1) := by decide +kernel
theorem dX3_holds_15 : decode cX3_holds 15 = .ok (.goto 4, 3) := by decide +kernel
theorem dX3_holds_18 : decode cX3_holds 18 = .ok (.iconst 0, 1) := by decide +kernel
theorem dX3_holds_19 : decode cX3_holds 19 = .ok (.ireturn, 1) := by decide +kernel
theorem dX3_giveChain_0 : decode cX3_giveChain 0 = .ok (.aload_n 0, 1) := by decide +kernel
theorem dX3_giveChain_1 : decode cX3_giveChain 1 = .ok (.iload_n 1, 1) := by decide +kernel
theorem dX3_giveChain_2 : decode cX3_giveChain 2 = .ok (.invokevirtual 57, 3) := by decide +kernel
theorem dX3_giveChain_5 : decode cX3_giveChain 5 = .ok (.ifCond .ne 4, 3) := by decide +kernel
theorem dX3_giveChain_8 : decode cX3_giveChain 8 = .ok (.return_, 1) := by decide +kernel
theorem dX3_giveChain_9 : decode cX3_giveChain 9 = .ok (.aload_n 0, 1) := by decide +kernel
theorem dX3_giveChain_10 : decode cX3_giveChain 10 = .ok (.getfield 36, 3) := by decide +kernel
theorem dX3_giveChain_13 : decode cX3_giveChain 13 = .ok (.iload_n 1, 1) := by decide +kernel
theorem dX3_giveChain_14 : decode cX3_giveChain 14 = .ok (.iconst 3, 1) := by decide +kernel
theorem dX3_giveChain_15 : decode cX3_giveChain 15 = .ok (.imul, 1) := by decide +kernel
theorem dX3_giveChain_16 : decode cX3_giveChain 16 = .ok (.iload_n 2, 1) := by decide +kernel
theorem dX3_giveChain_17 : decode cX3_giveChain 17 = .ok (.iastore, 1) := by decide +kernel
theorem dX3_giveChain_18 : decode cX3_giveChain 18 = .ok (.aload_n 0, 1) := by decide +kernel
theorem dX3_giveChain_19 : decode cX3_giveChain 19 = .ok (.getfield 36, 3) := by decide +kernel
theorem dX3_giveChain_22 : decode cX3_giveChain 22 = .ok (.iload_n 1, 1) := by decide +kernel
theorem dX3_giveChain_23 : decode cX3_giveChain 23 = .ok (.iconst 3, 1) := by decide +kernel
theorem dX3_giveChain_24 : decode cX3_giveChain 24 = .ok (.imul, 1) := by decide +kernel
theorem dX3_giveChain_25 : decode cX3_giveChain 25 = .ok (.iconst 1, 1) := by decide +kernel
theorem dX3_giveChain_26 : decode cX3_giveChain 26 = .ok (.iadd, 1) := by decide +kernel
theorem dX3_giveChain_27 : decode cX3_giveChain 27 = .ok (.iload_n 3, 1) := by decide +kernel
theorem dX3_giveChain_28 : decode cX3_giveChain 28 = .ok (.iastore, 1) := by decide +kernel
theorem dX3_giveChain_29 : decode cX3_giveChain 29 = .ok (.aload_n 0, 1) := by decide +kernel
theorem dX3_giveChain_30 : decode cX3_giveChain 30 = .ok (.getfield 36, 3) := by decide +kernel
theorem dX3_giveChain_33 : decode cX3_giveChain 33 = .ok (.iload_n 1, 1) := by decide +kernel
theorem dX3_giveChain_34 : decode cX3_giveChain 34 = .ok (.iconst 3, 1) := by decide +kernel
theorem dX3_giveChain_35 : decode cX3_giveChain 35 = .ok (.imul, 1) := by decide +kernel
theorem dX3_giveChain_36 : decode cX3_giveChain 36 = .ok (.iconst 2, 1) := by decide +kernel
theorem dX3_giveChain_37 : decode cX3_giveChain 37 = .ok (.iadd, 1) := by decide +kernel
theorem dX3_giveChain_38 : decode cX3_giveChain 38 = .ok (.iload 4, 2) := by decide +kernel
theorem dX3_giveChain_40 : decode cX3_giveChain 40 = .ok (.iastore, 1) := by decide +kernel
theorem dX3_giveChain_41 : decode cX3_giveChain 41 = .ok (.aload_n 0, 1) := by decide +kernel
theorem dX3_giveChain_42 : decode cX3_giveChain 42 = .ok (.getfield 33, 3) := by decide +kernel
theorem dX3_giveChain_45 : decode cX3_giveChain 45 = .ok (.iload_n 1, 1) := by decide +kernel
theorem dX3_giveChain_46 : decode cX3_giveChain 46 = .ok (.iload_n 2, 1) := by decide +kernel
theorem dX3_giveChain_47 : decode cX3_giveChain 47 = .ok (.iload_n 3, 1) := by decide +kernel
theorem dX3_giveChain_48 : decode cX3_giveChain 48 = .ok (.iload 4, 2) := by decide +kernel
theorem dX3_giveChain_50 : decode cX3_giveChain 50 = .ok (.invokestatic 61, 3) := by decide +kernel
theorem dX3_giveChain_53 : decode cX3_giveChain 53 = .ok (.iastore, 1) := by decide +kernel
theorem dX3_giveChain_54 : decode cX3_giveChain 54 = .ok (.aload_n 0, 1) := by decide +kernel
theorem dX3_giveChain_55 : decode cX3_giveChain 55 = .ok (.getfield 27, 3) := by decide +kernel
theorem dX3_giveChain_58 : decode cX3_giveChain 58 = .ok (.iload_n 1, 1) := by decide +kernel
theorem dX3_giveChain_59 : decode cX3_giveChain 59 = .ok (.aload_n 0, 1) := by decide +kernel
theorem dX3_giveChain_60 : decode cX3_giveChain 60 = .ok (.getfield 33, 3) := by decide +kernel
theorem dX3_giveChain_63 : decode cX3_giveChain 63 = .ok (.iload_n 1, 1) := by decide +kernel
theorem dX3_giveChain_64 : decode cX3_giveChain 64 = .ok (.iaload, 1) := by decide +kernel
theorem dX3_giveChain_65 : decode cX3_giveChain 65 = .ok (.invokestatic 65, 3) := by decide +kernel
theorem dX3_giveChain_68 : decode cX3_giveChain 68 = .ok (.iastore, 1) := by decide +kernel
theorem dX3_giveChain_69 : decode cX3_giveChain 69 = .ok (.return_, 1) := by decide +kernel
theorem dX3_listedAndClashing_0 : decode cX3_listedAndClashing 0 = .ok (.iload_n 1, 1) := by decide +kernel
theorem dX3_listedAndClashing_1 : decode cX3_listedAndClashing 1 = .ok (.iload_n 2, 1) := by decide +kernel
theorem dX3_listedAndClashing_2 : decode cX3_listedAndClashing 2 = .ok (.if_icmp .eq 43, 3) := by decide +kernel
theorem dX3_listedAndClashing_5 : decode cX3_listedAndClashing 5 = .ok (.aload_n 0, 1) := by decide +kernel
theorem dX3_listedAndClashing_6 : decode cX3_listedAndClashing 6 = .ok (.iload_n 1, 1) := by decide +kernel
theorem dX3_listedAndClashing_7 : decode cX3_listedAndClashing 7 = .ok (.invokevirtual 70, 3) := by decide +kernel
theorem dX3_listedAndClashing_10 : decode cX3_listedAndClashing 10 = .ok (.ifCond .eq 35, 3) := by decide +kernel
theorem dX3_listedAndClashing_13 : decode cX3_listedAndClashing 13 = .ok (.aload_n 0, 1) := by decide +kernel
theorem dX3_listedAndClashing_14 : decode cX3_listedAndClashing 14 = .ok (.getfield 18, 3) := by decide +kernel
theorem dX3_listedAndClashing_17 : decode cX3_listedAndClashing 17 = .ok (.iload_n 1, 1) := by decide +kernel
theorem dX3_listedAndClashing_18 : decode cX3_listedAndClashing 18 = .ok (.iaload, 1) := by decide +kernel
theorem dX3_listedAndClashing_19 : decode cX3_listedAndClashing 19 = .ok (.aload_n 0, 1) := by decide +kernel
theorem dX3_listedAndClashing_20 : decode cX3_listedAndClashing 20 = .ok (.iload_n 2, 1) := by decide +kernel
theorem dX3_listedAndClashing_21 : decode cX3_listedAndClashing 21 = .ok (.invokevirtual 73, 3) := by decide +kernel
theorem dX3_listedAndClashing_24 : decode cX3_listedAndClashing 24 = .ok (.if_icmp .ge 21, 3) := by decide +kernel
theorem dX3_listedAndClashing_27 : decode cX3_listedAndClashing 27 = .ok (.aload_n 0, 1) := by decide +kernel
theorem dX3_listedAndClashing_28 : decode cX3_listedAndClashing 28 = .ok (.getfield 18, 3) := by decide +kernel
theorem dX3_listedAndClashing_31 : decode cX3_listedAndClashing 31 = .ok (.iload_n 2, 1) := by decide +kernel
theorem dX3_listedAndClashing_32 : decode cX3_listedAndClashing 32 = .ok (.iaload, 1) := by decide +kernel
theorem dX3_listedAndClashing_33 : decode cX3_listedAndClashing 33 = .ok (.aload_n 0, 1) := by decide +kernel
theorem dX3_listedAndClashing_34 : decode cX3_listedAndClashing 34 = .ok (.iload_n 1, 1) := by decide +kernel
theorem dX3_listedAndClashing_35 : decode cX3_listedAndClashing 35 = .ok (.invokevirtual 73, 3) := by decide +kernel
theorem dX3_listedAndClashing_38 : decode cX3_listedAndClashing 38 = .ok (.if_icmp .ge 7, 3) := by decide +kernel
theorem dX3_listedAndClashing_41 : decode cX3_listedAndClashing 41 = .ok (.iconst 1, 1) := by decide +kernel
theorem dX3_listedAndClashing_42 : decode cX3_listedAndClashing 42 = .ok (.goto 4, 3) := by decide +kernel
theorem dX3_listedAndClashing_45 : decode cX3_listedAndClashing 45 = .ok (.iconst 0, 1) := by decide +kernel
theorem dX3_listedAndClashing_46 : decode cX3_listedAndClashing 46 = .ok (.ireturn, 1) := by decide +kernel
theorem dX3_busyFor_0 : decode cX3_busyFor 0 = .ok (.iconst 0, 1) := by decide +kernel
theorem dX3_busyFor_1 : decode cX3_busyFor 1 = .ok (.istore_n 2, 1) := by decide +kernel
theorem dX3_busyFor_2 : decode cX3_busyFor 2 = .ok (.iconst 0, 1) := by decide +kernel
theorem dX3_busyFor_3 : decode cX3_busyFor 3 = .ok (.istore_n 3, 1) := by decide +kernel
theorem dX3_busyFor_4 : decode cX3_busyFor 4 = .ok (.iload_n 3, 1) := by decide +kernel
theorem dX3_busyFor_5 : decode cX3_busyFor 5 = .ok (.aload_n 0, 1) := by decide +kernel
theorem dX3_busyFor_6 : decode cX3_busyFor 6 = .ok (.getfield 39, 3) := by decide +kernel
theorem dX3_busyFor_9 : decode cX3_busyFor 9 = .ok (.if_icmp .ge 27, 3) := by decide +kernel
theorem dX3_busyFor_12 : decode cX3_busyFor 12 = .ok (.aload_n 0, 1) := by decide +kernel
theorem dX3_busyFor_13 : decode cX3_busyFor 13 = .ok (.iload_n 3, 1) := by decide +kernel
theorem dX3_busyFor_14 : decode cX3_busyFor 14 = .ok (.iload_n 1, 1) := by decide +kernel
theorem dX3_busyFor_15 : decode cX3_busyFor 15 = .ok (.invokevirtual 76, 3) := by decide +kernel
theorem dX3_busyFor_18 : decode cX3_busyFor 18 = .ok (.ifCond .eq 12, 3) := by decide +kernel
theorem dX3_busyFor_21 : decode cX3_busyFor 21 = .ok (.iload_n 2, 1) := by decide +kernel
theorem dX3_busyFor_22 : decode cX3_busyFor 22 = .ok (.aload_n 0, 1) := by decide +kernel
theorem dX3_busyFor_23 : decode cX3_busyFor 23 = .ok (.getfield 33, 3) := by decide +kernel
theorem dX3_busyFor_26 : decode cX3_busyFor 26 = .ok (.iload_n 3, 1) := by decide +kernel
theorem dX3_busyFor_27 : decode cX3_busyFor 27 = .ok (.iaload, 1) := by decide +kernel
theorem dX3_busyFor_28 : decode cX3_busyFor 28 = .ok (.ior, 1) := by decide +kernel
theorem dX3_busyFor_29 : decode cX3_busyFor 29 = .ok (.istore_n 2, 1) := by decide +kernel
theorem dX3_busyFor_30 : decode cX3_busyFor 30 = .ok (.iinc 3 1, 3) := by decide +kernel
theorem dX3_busyFor_33 : decode cX3_busyFor 33 = .ok (.goto (-29), 3) := by decide +kernel
theorem dX3_busyFor_36 : decode cX3_busyFor 36 = .ok (.iload_n 2, 1) := by decide +kernel
theorem dX3_busyFor_37 : decode cX3_busyFor 37 = .ok (.ireturn, 1) := by decide +kernel
theorem dX3_clashesOf_0 : decode cX3_clashesOf 0 = .ok (.iconst 0, 1) := by decide +kernel
theorem dX3_clashesOf_1 : decode cX3_clashesOf 1 = .ok (.istore_n 2, 1) := by decide +kernel
theorem dX3_clashesOf_2 : decode cX3_clashesOf 2 = .ok (.iconst 0, 1) := by decide +kernel
theorem dX3_clashesOf_3 : decode cX3_clashesOf 3 = .ok (.istore_n 3, 1) := by decide +kernel
theorem dX3_clashesOf_4 : decode cX3_clashesOf 4 = .ok (.iload_n 3, 1) := by decide +kernel
theorem dX3_clashesOf_5 : decode cX3_clashesOf 5 = .ok (.aload_n 0, 1) := by decide +kernel
theorem dX3_clashesOf_6 : decode cX3_clashesOf 6 = .ok (.getfield 39, 3) := by decide +kernel
theorem dX3_clashesOf_9 : decode cX3_clashesOf 9 = .ok (.if_icmp .ge 21, 3) := by decide +kernel
theorem dX3_clashesOf_12 : decode cX3_clashesOf 12 = .ok (.aload_n 0, 1) := by decide +kernel
theorem dX3_clashesOf_13 : decode cX3_clashesOf 13 = .ok (.iload_n 3, 1) := by decide +kernel
theorem dX3_clashesOf_14 : decode cX3_clashesOf 14 = .ok (.iload_n 1, 1) := by decide +kernel
theorem dX3_clashesOf_15 : decode cX3_clashesOf 15 = .ok (.invokevirtual 76, 3) := by decide +kernel
theorem dX3_clashesOf_18 : decode cX3_clashesOf 18 = .ok (.ifCond .eq 6, 3) := by decide +kernel
theorem dX3_clashesOf_21 : decode cX3_clashesOf 21 = .ok (.iinc 2 1, 3) := by decide +kernel
theorem dX3_clashesOf_24 : decode cX3_clashesOf 24 = .ok (.iinc 3 1, 3) := by decide +kernel
theorem dX3_clashesOf_27 : decode cX3_clashesOf 27 = .ok (.goto (-23), 3) := by decide +kernel
theorem dX3_clashesOf_30 : decode cX3_clashesOf 30 = .ok (.iload_n 2, 1) := by decide +kernel
theorem dX3_clashesOf_31 : decode cX3_clashesOf 31 = .ok (.ireturn, 1) := by decide +kernel
theorem dX3_listedWith_0 : decode cX3_listedWith 0 = .ok (.iconst 0, 1) := by decide +kernel
theorem dX3_listedWith_1 : decode cX3_listedWith 1 = .ok (.istore_n 2, 1) := by decide +kernel
theorem dX3_listedWith_2 : decode cX3_listedWith 2 = .ok (.iconst 0, 1) := by decide +kernel
theorem dX3_listedWith_3 : decode cX3_listedWith 3 = .ok (.istore_n 3, 1) := by decide +kernel
theorem dX3_listedWith_4 : decode cX3_listedWith 4 = .ok (.iload_n 3, 1) := by decide +kernel
theorem dX3_listedWith_5 : decode cX3_listedWith 5 = .ok (.aload_n 0, 1) := by decide +kernel
theorem dX3_listedWith_6 : decode cX3_listedWith 6 = .ok (.getfield 39, 3) := by decide +kernel
theorem dX3_listedWith_9 : decode cX3_listedWith 9 = .ok (.if_icmp .ge 29, 3) := by decide +kernel
theorem dX3_listedWith_12 : decode cX3_listedWith 12 = .ok (.aload_n 0, 1) := by decide +kernel
theorem dX3_listedWith_13 : decode cX3_listedWith 13 = .ok (.iload_n 3, 1) := by decide +kernel
theorem dX3_listedWith_14 : decode cX3_listedWith 14 = .ok (.invokevirtual 70, 3) := by decide +kernel
theorem dX3_listedWith_17 : decode cX3_listedWith 17 = .ok (.ifCond .eq 15, 3) := by decide +kernel
theorem dX3_listedWith_20 : decode cX3_listedWith 20 = .ok (.aload_n 0, 1) := by decide +kernel
theorem dX3_listedWith_21 : decode cX3_listedWith 21 = .ok (.iload_n 3, 1) := by decide +kernel
theorem dX3_listedWith_22 : decode cX3_listedWith 22 = .ok (.iload_n 1, 1) := by decide +kernel
theorem dX3_listedWith_23 : decode cX3_listedWith 23 = .ok (.invokevirtual 80, 3) := by decide +kernel
theorem dX3_listedWith_26 : decode cX3_listedWith 26 = .ok (.ifCond .eq 6, 3) := by decide +kernel
theorem dX3_listedWith_29 : decode cX3_listedWith 29 = .ok (.iinc 2 1, 3) := by decide +kernel
theorem dX3_listedWith_32 : decode cX3_listedWith 32 = .ok (.iinc 3 1, 3) := by decide +kernel
theorem dX3_listedWith_35 : decode cX3_listedWith 35 = .ok (.goto (-31), 3) := by decide +kernel
theorem dX3_listedWith_38 : decode cX3_listedWith 38 = .ok (.iload_n 2, 1) := by decide +kernel
theorem dX3_listedWith_39 : decode cX3_listedWith 39 = .ok (.ireturn, 1) := by decide +kernel
theorem dX3_countStage_0 : decode cX3_countStage 0 = .ok (.iconst 0, 1) := by decide +kernel
theorem dX3_countStage_1 : decode cX3_countStage 1 = .ok (.istore_n 2, 1) := by decide +kernel
theorem dX3_countStage_2 : decode cX3_countStage 2 = .ok (.iconst 0, 1) := by decide +kernel
theorem dX3_countStage_3 : decode cX3_countStage 3 = .ok (.istore_n 3, 1) := by decide +kernel
theorem dX3_countStage_4 : decode cX3_countStage 4 = .ok (.iload_n 3, 1) := by decide +kernel
theorem dX3_countStage_5 : decode cX3_countStage 5 = .ok (.aload_n 0, 1) := by decide +kernel
theorem dX3_countStage_6 : decode cX3_countStage 6 = .ok (.getfield 39, 3) := by decide +kernel
theorem dX3_countStage_9 : decode cX3_countStage 9 = .ok (.if_icmp .ge 22, 3) := by decide +kernel
theorem dX3_countStage_12 : decode cX3_countStage 12 = .ok (.aload_n 0, 1) := by decide +kernel
theorem dX3_countStage_13 : decode cX3_countStage 13 = .ok (.getfield 24, 3) := by decide +kernel
theorem dX3_countStage_16 : decode cX3_countStage 16 = .ok (.iload_n 3, 1) := by decide +kernel
theorem dX3_countStage_17 : decode cX3_countStage 17 = .ok (.iaload, 1) := by decide +kernel
theorem dX3_countStage_18 : decode cX3_countStage 18 = .ok (.iload_n 1, 1) := by decide +kernel
theorem dX3_countStage_19 : decode cX3_countStage 19 = .ok (.if_icmp .ne 6, 3) := by decide +kernel
theorem dX3_countStage_22 : decode cX3_countStage 22 = .ok (.iinc 2 1, 3) := by decide +kernel
theorem dX3_countStage_25 : decode cX3_countStage 25 = .ok (.iinc 3 1, 3) := by decide +kernel
theorem dX3_countStage_28 : decode cX3_countStage 28 = .ok (.goto (-24), 3) := by decide +kernel
theorem dX3_countStage_31 : decode cX3_countStage 31 = .ok (.iload_n 2, 1) := by decide +kernel
theorem dX3_countStage_32 : decode cX3_countStage 32 = .ok (.ireturn, 1) := by decide +kernel
theorem dX3_countListedManned_0 : decode cX3_countListedManned 0 = .ok (.iconst 0, 1) := by decide +kernel
theorem dX3_countListedManned_1 : decode cX3_countListedManned 1 = .ok (.istore_n 1, 1) := by decide +kernel
theorem dX3_countListedManned_2 : decode cX3_countListedManned 2 = .ok (.iconst 0, 1) := by decide +kernel
theorem dX3_countListedManned_3 : decode cX3_countListedManned 3 = .ok (.istore_n 2, 1) := by decide +kernel
theorem dX3_countListedManned_4 : decode cX3_countListedManned 4 = .ok (.iload_n 2, 1) := by decide +kernel
theorem dX3_countListedManned_5 : decode cX3_countListedManned 5 = .ok (.aload_n 0, 1) := by decide +kernel
theorem dX3_countListedManned_6 : decode cX3_countListedManned 6 = .ok (.getfield 39, 3) := by decide +kernel
theorem dX3_countListedManned_9 : decode cX3_countListedManned 9 = .ok (.if_icmp .ge 29, 3) := by decide +kernel
theorem dX3_countListedManned_12 : decode cX3_countListedManned 12 = .ok (.aload_n 0, 1) := by decide +kernel
theorem dX3_countListedManned_13 : decode cX3_countListedManned 13 = .ok (.iload_n 2, 1) := by decide +kernel
theorem dX3_countListedManned_14 : decode cX3_countListedManned 14 = .ok (.invokevirtual 70, 3) := by decide +kernel
theorem dX3_countListedManned_17 : decode cX3_countListedManned 17 = .ok (.ifCond .eq 15, 3) := by decide +kernel
theorem dX3_countListedManned_20 : decode cX3_countListedManned 20 = .ok (.aload_n 0, 1) := by decide +kernel
theorem dX3_countListedManned_21 : decode cX3_countListedManned 21 = .ok (.getfield 27, 3) := by decide +kernel
theorem dX3_countListedManned_24 : decode cX3_countListedManned 24 = .ok (.iload_n 2, 1) := by decide +kernel
theorem dX3_countListedManned_25 : decode cX3_countListedManned 25 = .ok (.iaload, 1) := by decide +kernel
theorem dX3_countListedManned_26 : decode cX3_countListedManned 26 = .ok (.ifCond .le 6, 3) := by decide +kernel
theorem dX3_countListedManned_29 : decode cX3_countListedManned 29 = .ok (.iinc 1 1, 3) := by decide +kernel
theorem dX3_countListedManned_32 : decode cX3_countListedManned 32 = .ok (.iinc 2 1, 3) := by decide +kernel
theorem dX3_countListedManned_35 : decode cX3_countListedManned 35 = .ok (.goto (-31), 3) := by decide +kernel
theorem dX3_countListedManned_38 : decode cX3_countListedManned 38 = .ok (.iload_n 1, 1) := by decide +kernel
theorem dX3_countListedManned_39 : decode cX3_countListedManned 39 = .ok (.ireturn, 1) := by decide +kernel
theorem dX4_init_0 : decode cX4_init 0 = .ok (.aload_n 0, 1) := by decide +kernel
theorem dX4_init_1 : decode cX4_init 1 = .ok (.invokespecial 3, 3) := by decide +kernel
theorem dX4_init_4 : decode cX4_init 4 = .ok (.aload_n 0, 1) := by decide +kernel
theorem dX4_init_5 : decode cX4_init 5 = .ok (.bipush 6, 2) := by decide +kernel
theorem dX4_init_7 : decode cX4_init 7 = .ok (.anewarray 9, 3) := by decide +kernel
theorem dX4_init_10 : decode cX4_init 10 = .ok (.putfield 11, 3) := by decide +kernel
theorem dX4_init_13 : decode cX4_init 13 = .ok (.iconst 0, 1) := by decide +kernel
theorem dX4_init_14 : decode cX4_init 14 = .ok (.istore_n 1, 1) := by decide +kernel
theorem dX4_init_15 : decode cX4_init 15 = .ok (.iload_n 1, 1) := by decide +kernel
theorem dX4_init_16 : decode cX4_init 16 = .ok (.bipush 6, 2) := by decide +kernel
theorem dX4_init_18 : decode cX4_init 18 = .ok (.if_icmp .ge 22, 3) := by decide +kernel
theorem dX4_init_21 : decode cX4_init 21 = .ok (.aload_n 0, 1) := by decide +kernel
theorem dX4_init_22 : decode cX4_init 22 = .ok (.getfield 11, 3) := by decide +kernel
theorem dX4_init_25 : decode cX4_init 25 = .ok (.iload_n 1, 1) := by decide +kernel
theorem dX4_init_26 : decode cX4_init 26 = .ok (.new 9, 3) := by decide +kernel
theorem dX4_init_29 : decode cX4_init 29 = .ok (.dup, 1) := by decide +kernel
theorem dX4_init_30 : decode cX4_init 30 = .ok (.invokespecial 17, 3) := by decide +kernel
theorem dX4_init_33 : decode cX4_init 33 = .ok (.aastore, 1) := by decide +kernel
theorem dX4_init_34 : decode cX4_init 34 = .ok (.iinc 1 1, 3) := by decide +kernel
theorem dX4_init_37 : decode cX4_init 37 = .ok (.goto (-22), 3) := by decide +kernel
theorem dX4_init_40 : decode cX4_init 40 = .ok (.return_, 1) := by decide +kernel
theorem dX4_save_0 : decode cX4_save 0 = .ok (.aload_n 0, 1) := by decide +kernel
theorem dX4_save_1 : decode cX4_save 1 = .ok (.getfield 11, 3) := by decide +kernel
theorem dX4_save_4 : decode cX4_save 4 = .ok (.aload_n 0, 1) := by decide +kernel
theorem dX4_save_5 : decode cX4_save 5 = .ok (.getfield 18, 3) := by decide +kernel
theorem dX4_save_8 : decode cX4_save 8 = .ok (.aload_n 0, 1) := by decide +kernel
theorem dX4_save_9 : decode cX4_save 9 = .ok (.getfield 22, 3) := by decide +kernel
theorem dX4_save_12 : decode cX4_save 12 = .ok (.iadd, 1) := by decide +kernel
theorem dX4_save_13 : decode cX4_save 13 = .ok (.bipush 6, 2) := by decide +kernel
theorem dX4_save_15 : decode cX4_save 15 = .ok (.irem, 1) := by decide +kernel
theorem dX4_save_16 : decode cX4_save 16 = .ok (.aaload, 1) := by decide +kernel
theorem dX4_save_17 : decode cX4_save 17 = .ok (.astore_n 2, 1) := by decide +kernel
theorem dX4_save_18 : decode cX4_save 18 = .ok (.aload_n 2, 1) := by decide +kernel
theorem dX4_save_19 : decode cX4_save 19 = .ok (.ifnonnull 4, 3) := by decide +kernel
theorem dX4_save_22 : decode cX4_save 22 = .ok (.return_, 1) := by decide +kernel
theorem dX4_save_23 : decode cX4_save 23 = .ok (.aload_n 2, 1) := by decide +kernel
theorem dX4_save_24 : decode cX4_save 24 = .ok (.aload_n 1, 1) := by decide +kernel
theorem dX4_save_25 : decode cX4_save 25 = .ok (.invokevirtual 25, 3) := by decide +kernel
theorem dX4_save_28 : decode cX4_save 28 = .ok (.aload_n 0, 1) := by decide +kernel
theorem dX4_save_29 : decode cX4_save 29 = .ok (.getfield 22, 3) := by decide +kernel
theorem dX4_save_32 : decode cX4_save 32 = .ok (.bipush 6, 2) := by decide +kernel
theorem dX4_save_34 : decode cX4_save 34 = .ok (.if_icmp .ge 16, 3) := by decide +kernel
theorem dX4_save_37 : decode cX4_save 37 = .ok (.aload_n 0, 1) := by decide +kernel
theorem dX4_save_38 : decode cX4_save 38 = .ok (.dup, 1) := by decide +kernel
theorem dX4_save_39 : decode cX4_save 39 = .ok (.getfield 22, 3) := by decide +kernel
theorem dX4_save_42 : decode cX4_save 42 = .ok (.iconst 1, 1) := by decide +kernel
theorem dX4_save_43 : decode cX4_save 43 = .ok (.iadd, 1) := by decide +kernel
theorem dX4_save_44 : decode cX4_save 44 = .ok (.putfield 22, 3) := by decide +kernel
theorem dX4_save_47 : decode cX4_save 47 = .ok (.goto 16, 3) := by decide +kernel
theorem dX4_save_50 : decode cX4_save 50 = .ok (.aload_n 0, 1) := by decide +kernel
theorem dX4_save_51 : decode cX4_save 51 = .ok (.aload_n 0, 1) := by decide +kernel
theorem dX4_save_52 : decode cX4_save 52 = .ok (.getfield 18, 3) := by decide +kernel
theorem dX4_save_55 : decode cX4_save 55 = .ok (.iconst 1, 1) := by decide +kernel
theorem dX4_save_56 : decode cX4_save 56 = .ok (.iadd, 1) := by decide +kernel
theorem dX4_save_57 : decode cX4_save 57 = .ok (.bipush 6, 2) := by decide +kernel
theorem dX4_save_59 : decode cX4_save 59 = .ok (.irem, 1) := by decide +kernel
theorem dX4_save_60 : decode cX4_save 60 = .ok (.putfield 18, 3) := by decide +kernel
theorem dX4_save_63 : decode cX4_save 63 = .ok (.return_, 1) := by decide +kernel
theorem dX5_init_0 : decode cX5_init 0 = .ok (.aload_n 0, 1) := by decide +kernel
theorem dX5_init_1 : decode cX5_init 1 = .ok (.invokespecial 3, 3) := by decide +kernel
theorem dX5_init_4 : decode cX5_init 4 = .ok (.return_, 1) := by decide +kernel
theorem dX6_init_0 : decode cX6_init 0 = .ok (.aload_n 0, 1) := by decide +kernel
theorem dX6_init_1 : decode cX6_init 1 = .ok (.invokespecial 3, 3) := by decide +kernel
theorem dX6_init_4 : decode cX6_init 4 = .ok (.aload_n 0, 1) := by decide +kernel
theorem dX6_init_5 : decode cX6_init 5 = .ok (.bipush 10, 2) := by decide +kernel
theorem dX6_init_7 : decode cX6_init 7 = .ok (.newarray .int, 2) := by decide +kernel
theorem dX6_init_9 : decode cX6_init 9 = .ok (.putfield 9, 3) := by decide +kernel
theorem dX6_init_12 : decode cX6_init 12 = .ok (.aload_n 0, 1) := by decide +kernel
theorem dX6_init_13 : decode cX6_init 13 = .ok (.bipush 10, 2) := by decide +kernel
theorem dX6_init_15 : decode cX6_init 15 = .ok (.newarray .int, 2) := by decide +kernel
theorem dX6_init_17 : decode cX6_init 17 = .ok (.putfield 15, 3) := by decide +kernel
theorem dX6_init_20 : decode cX6_init 20 = .ok (.aload_n 0, 1) := by decide +kernel
theorem dX6_init_21 : decode cX6_init 21 = .ok (.bipush 10, 2) := by decide +kernel
theorem dX6_init_23 : decode cX6_init 23 = .ok (.newarray .int, 2) := by decide +kernel
theorem dX6_init_25 : decode cX6_init 25 = .ok (.putfield 18, 3) := by decide +kernel
theorem dX6_init_28 : decode cX6_init 28 = .ok (.aload_n 0, 1) := by decide +kernel
theorem dX6_init_29 : decode cX6_init 29 = .ok (.bipush 10, 2) := by decide +kernel
theorem dX6_init_31 : decode cX6_init 31 = .ok (.newarray .int, 2) := by decide +kernel
theorem dX6_init_33 : decode cX6_init 33 = .ok (.putfield 21, 3) := by decide +kernel
theorem dX6_init_36 : decode cX6_init 36 = .ok (.aload_n 0, 1) := by decide +kernel
theorem dX6_init_37 : decode cX6_init 37 = .ok (.bipush 10, 2) := by decide +kernel
theorem dX6_init_39 : decode cX6_init 39 = .ok (.newarray .int, 2) := by decide +kernel
theorem dX6_init_41 : decode cX6_init 41 = .ok (.putfield 24, 3) := by decide +kernel
theorem dX6_init_44 : decode cX6_init 44 = .ok (.aload_n 0, 1) := by decide +kernel
theorem dX6_init_45 : decode cX6_init 45 = .ok (.bipush 10, 2) := by decide +kernel
theorem dX6_init_47 : decode cX6_init 47 = .ok (.newarray .int, 2) := by decide +kernel
theorem dX6_init_49 : decode cX6_init 49 = .ok (.putfield 27, 3) := by decide +kernel
theorem dX6_init_52 : decode cX6_init 52 = .ok (.return_, 1) := by decide +kernel
theorem dX6_copyFrom_0 : decode cX6_copyFrom 0 = .ok (.aload_n 0, 1) := by decide +kernel
theorem dX6_copyFrom_1 : decode cX6_copyFrom 1 = .ok (.aload_n 1, 1) := by decide +kernel
theorem dX6_copyFrom_2 : decode cX6_copyFrom 2 = .ok (.getfield 30, 3) := by decide +kernel
theorem dX6_copyFrom_5 : decode cX6_copyFrom 5 = .ok (.putfield 30, 3) := by decide +kernel
theorem dX6_copyFrom_8 : decode cX6_copyFrom 8 = .ok (.aload_n 1, 1) := by decide +kernel
theorem dX6_copyFrom_9 : decode cX6_copyFrom 9 = .ok (.getfield 9, 3) := by decide +kernel
theorem dX6_copyFrom_12 : decode cX6_copyFrom 12 = .ok (.iconst 0, 1) := by decide +kernel
theorem dX6_copyFrom_13 : decode cX6_copyFrom 13 = .ok (.aload_n 0, 1) := by decide +kernel
theorem dX6_copyFrom_14 : decode cX6_copyFrom 14 = .ok (.getfield 9, 3) := by decide +kernel
theorem dX6_copyFrom_17 : decode cX6_copyFrom 17 = .ok (.iconst 0, 1) := by decide +kernel
theorem dX6_copyFrom_18 : decode cX6_copyFrom 18 = .ok (.bipush 10, 2) := by decide +kernel
theorem dX6_copyFrom_20 : decode cX6_copyFrom 20 = .ok (.invokestatic 34, 3) := by decide +kernel
theorem dX6_copyFrom_23 : decode cX6_copyFrom 23 = .ok (.aload_n 1, 1) := by decide +kernel
theorem dX6_copyFrom_24 : decode cX6_copyFrom 24 = .ok (.getfield 15, 3) := by decide +kernel
theorem dX6_copyFrom_27 : decode cX6_copyFrom 27 = .ok (.iconst 0, 1) := by decide +kernel
theorem dX6_copyFrom_28 : decode cX6_copyFrom 28 = .ok (.aload_n 0, 1) := by decide +kernel
theorem dX6_copyFrom_29 : decode cX6_copyFrom 29 = .ok (.getfield 15, 3) := by decide +kernel
theorem dX6_copyFrom_32 : decode cX6_copyFrom 32 = .ok (.iconst 0, 1) := by decide +kernel
theorem dX6_copyFrom_33 : decode cX6_copyFrom 33 = .ok (.bipush 10, 2) := by decide +kernel
theorem dX6_copyFrom_35 : decode cX6_copyFrom 35 = .ok (.invokestatic 34, 3) := by decide +kernel
theorem dX6_copyFrom_38 : decode cX6_copyFrom 38 = .ok (.aload_n 1, 1) := by decide +kernel
theorem dX6_copyFrom_39 : decode cX6_copyFrom 39 = .ok (.getfield 18, 3) := by decide +kernel
theorem dX6_copyFrom_42 : decode cX6_copyFrom 42 = .ok (.iconst 0, 1) := by decide +kernel
theorem dX6_copyFrom_43 : decode cX6_copyFrom 43 = .ok (.aload_n 0, 1) := by decide +kernel
theorem dX6_copyFrom_44 : decode cX6_copyFrom 44 = .ok (.getfield 18, 3) := by decide +kernel
theorem dX6_copyFrom_47 : decode cX6_copyFrom 47 = .ok (.iconst 0, 1) := by decide +kernel
theorem dX6_copyFrom_48 : decode cX6_copyFrom 48 = .ok (.bipush 10, 2) := by decide +kernel
theorem dX6_copyFrom_50 : decode cX6_copyFrom 50 = .ok (.invokestatic 34, 3) := by decide +kernel
theorem dX6_copyFrom_53 : decode cX6_copyFrom 53 = .ok (.aload_n 1, 1) := by decide +kernel
theorem dX6_copyFrom_54 : decode cX6_copyFrom 54 = .ok (.getfield 21, 3) := by decide +kernel
theorem dX6_copyFrom_57 : decode cX6_copyFrom 57 = .ok (.iconst 0, 1) := by decide +kernel
theorem dX6_copyFrom_58 : decode cX6_copyFrom 58 = .ok (.aload_n 0, 1) := by decide +kernel
theorem dX6_copyFrom_59 : decode cX6_copyFrom 59 = .ok (.getfield 21, 3) := by decide +kernel
theorem dX6_copyFrom_62 : decode cX6_copyFrom 62 = .ok (.iconst 0, 1) := by decide +kernel
theorem dX6_copyFrom_63 : decode cX6_copyFrom 63 = .ok (.bipush 10, 2) := by decide +kernel
theorem dX6_copyFrom_65 : decode cX6_copyFrom 65 = .ok (.invokestatic 34, 3) := by decide +kernel
theorem dX6_copyFrom_68 : decode cX6_copyFrom 68 = .ok (.aload_n 1, 1) := by decide +kernel
theorem dX6_copyFrom_69 : decode cX6_copyFrom 69 = .ok (.getfield 24, 3) := by decide +kernel
theorem dX6_copyFrom_72 : decode cX6_copyFrom 72 = .ok (.iconst 0, 1) := by decide +kernel
theorem dX6_copyFrom_73 : decode cX6_copyFrom 73 = .ok (.aload_n 0, 1) := by decide +kernel
theorem dX6_copyFrom_74 : decode cX6_copyFrom 74 = .ok (.getfield 24, 3) := by decide +kernel
theorem dX6_copyFrom_77 : decode cX6_copyFrom 77 = .ok (.iconst 0, 1) := by decide +kernel
theorem dX6_copyFrom_78 : decode cX6_copyFrom 78 = .ok (.bipush 10, 2) := by decide +kernel
theorem dX6_copyFrom_80 : decode cX6_copyFrom 80 = .ok (.invokestatic 34, 3) := by decide +kernel
theorem dX6_copyFrom_83 : decode cX6_copyFrom 83 = .ok (.aload_n 1, 1) := by decide +kernel
theorem dX6_copyFrom_84 : decode cX6_copyFrom 84 = .ok (.getfield 27, 3) := by decide +kernel
theorem dX6_copyFrom_87 : decode cX6_copyFrom 87 = .ok (.iconst 0, 1) := by decide +kernel
theorem dX6_copyFrom_88 : decode cX6_copyFrom 88 = .ok (.aload_n 0, 1) := by decide +kernel
theorem dX6_copyFrom_89 : decode cX6_copyFrom 89 = .ok (.getfield 27, 3) := by decide +kernel
theorem dX6_copyFrom_92 : decode cX6_copyFrom 92 = .ok (.iconst 0, 1) := by decide +kernel
theorem dX6_copyFrom_93 : decode cX6_copyFrom 93 = .ok (.bipush 10, 2) := by decide +kernel
theorem dX6_copyFrom_95 : decode cX6_copyFrom 95 = .ok (.invokestatic 34, 3) := by decide +kernel
theorem dX6_copyFrom_98 : decode cX6_copyFrom 98 = .ok (.return_, 1) := by decide +kernel
theorem dX6_has_0 : decode cX6_has 0 = .ok (.iload_n 1, 1) := by decide +kernel
theorem dX6_has_1 : decode cX6_has 1 = .ok (.ifCond .lt 15, 3) := by decide +kernel
theorem dX6_has_4 : decode cX6_has 4 = .ok (.iload_n 1, 1) := by decide +kernel
theorem dX6_has_5 : decode cX6_has 5 = .ok (.aload_n 0, 1) := by decide +kernel
theorem dX6_has_6 : decode cX6_has 6 = .ok (.getfield 30, 3) := by decide +kernel
theorem dX6_has_9 : decode cX6_has 9 = .ok (.if_icmp .ge 7, 3) := by decide +kernel
theorem dX6_has_12 : decode cX6_has 12 = .ok (.iconst 1, 1) := by decide +kernel
theorem dX6_has_13 : decode cX6_has 13 = .ok (.goto 4, 3) := by decide +kernel
theorem dX6_has_16 : decode cX6_has 16 = .ok (.iconst 0, 1) := by decide +kernel
theorem dX6_has_17 : decode cX6_has 17 = .ok (.ireturn, 1) := by decide +kernel
theorem dX6_hire_0 : decode cX6_hire 0 = .ok (.aload_n 0, 1) := by decide +kernel
theorem dX6_hire_1 : decode cX6_hire 1 = .ok (.getfield 30, 3) := by decide +kernel
theorem dX6_hire_4 : decode cX6_hire 4 = .ok (.bipush 10, 2) := by decide +kernel
theorem dX6_hire_6 : decode cX6_hire 6 = .ok (.if_icmp .lt 5, 3) := by decide +kernel
theorem dX6_hire_9 : decode cX6_hire 9 = .ok (.iconst (-1), 1) := by decide +kernel
theorem dX6_hire_10 : decode cX6_hire 10 = .ok (.ireturn, 1) := by decide +kernel
theorem dX6_hire_11 : decode cX6_hire 11 = .ok (.aload_n 0, 1) := by decide +kernel
theorem dX6_hire_12 : decode cX6_hire 12 = .ok (.getfield 9, 3) := by decide +kernel
theorem dX6_hire_15 : decode cX6_hire 15 = .ok (.aload_n 0, 1) := by decide +kernel
theorem dX6_hire_16 : decode cX6_hire 16 = .ok (.getfield 30, 3) := by decide +kernel
theorem dX6_hire_19 : decode cX6_hire 19 = .ok (.iload_n 1, 1) := by decide +kernel
theorem dX6_hire_20 : decode cX6_hire 20 = .ok (.iastore, 1) := by decide +kernel
theorem dX6_hire_21 : decode cX6_hire 21 = .ok (.aload_n 0, 1) := by decide +kernel
theorem dX6_hire_22 : decode cX6_hire 22 = .ok (.getfield 15, 3) := by decide +kernel
theorem dX6_hire_25 : decode cX6_hire 25 = .ok (.aload_n 0, 1) := by decide +kernel
theorem dX6_hire_26 : decode cX6_hire 26 = .ok (.getfield 30, 3) := by decide +kernel
theorem dX6_hire_29 : decode cX6_hire 29 = .ok (.iload_n 2, 1) := by decide +kernel
theorem dX6_hire_30 : decode cX6_hire 30 = .ok (.iastore, 1) := by decide +kernel
theorem dX6_hire_31 : decode cX6_hire 31 = .ok (.aload_n 0, 1) := by decide +kernel
theorem dX6_hire_32 : decode cX6_hire 32 = .ok (.getfield 18, 3) := by decide +kernel
theorem dX6_hire_35 : decode cX6_hire 35 = .ok (.aload_n 0, 1) := by decide +kernel
theorem dX6_hire_36 : decode cX6_hire 36 = .ok (.getfield 30, 3) := by decide +kernel
theorem dX6_hire_39 : decode cX6_hire 39 = .ok (.iload_n 3, 1) := by decide +kernel
theorem dX6_hire_40 : decode cX6_hire 40 = .ok (.iastore, 1) := by decide +kernel
theorem dX6_hire_41 : decode cX6_hire 41 = .ok (.aload_n 0, 1) := by decide +kernel
theorem dX6_hire_42 : decode cX6_hire 42 = .ok (.getfield 21, 3) := by decide +kernel
theorem dX6_hire_45 : decode cX6_hire 45 = .ok (.aload_n 0, 1) := by decide +kernel
theorem dX6_hire_46 : decode cX6_hire 46 = .ok (.getfield 30, 3) := by decide +kernel
theorem dX6_hire_49 : decode cX6_hire 49 = .ok (.iconst 0, 1) := by decide +kernel
theorem dX6_hire_50 : decode cX6_hire 50 = .ok (.iastore, 1) := by decide +kernel
theorem dX6_hire_51 : decode cX6_hire 51 = .ok (.aload_n 0, 1) := by decide +kernel
theorem dX6_hire_52 : decode cX6_hire 52 = .ok (.getfield 24, 3) := by decide +kernel
theorem dX6_hire_55 : decode cX6_hire 55 = .ok (.aload_n 0, 1) := by decide +kernel
theorem dX6_hire_56 : decode cX6_hire 56 = .ok (.getfield 30, 3) := by decide +kernel
theorem dX6_hire_59 : decode cX6_hire 59 = .ok (.iconst 0, 1) := by decide +kernel
