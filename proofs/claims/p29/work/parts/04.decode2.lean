theorem dX6_hire_60 : decode cX6_hire 60 = .ok (.iastore, 1) := by decide +kernel
theorem dX6_hire_61 : decode cX6_hire 61 = .ok (.aload_n 0, 1) := by decide +kernel
theorem dX6_hire_62 : decode cX6_hire 62 = .ok (.getfield 27, 3) := by decide +kernel
theorem dX6_hire_65 : decode cX6_hire 65 = .ok (.aload_n 0, 1) := by decide +kernel
theorem dX6_hire_66 : decode cX6_hire 66 = .ok (.getfield 30, 3) := by decide +kernel
theorem dX6_hire_69 : decode cX6_hire 69 = .ok (.iconst 0, 1) := by decide +kernel
theorem dX6_hire_70 : decode cX6_hire 70 = .ok (.iastore, 1) := by decide +kernel
theorem dX6_hire_71 : decode cX6_hire 71 = .ok (.aload_n 0, 1) := by decide +kernel
theorem dX6_hire_72 : decode cX6_hire 72 = .ok (.dup, 1) := by decide +kernel
theorem dX6_hire_73 : decode cX6_hire 73 = .ok (.getfield 30, 3) := by decide +kernel
theorem dX6_hire_76 : decode cX6_hire 76 = .ok (.iconst 1, 1) := by decide +kernel
theorem dX6_hire_77 : decode cX6_hire 77 = .ok (.iadd, 1) := by decide +kernel
theorem dX6_hire_78 : decode cX6_hire 78 = .ok (.putfield 30, 3) := by decide +kernel
theorem dX6_hire_81 : decode cX6_hire 81 = .ok (.aload_n 0, 1) := by decide +kernel
theorem dX6_hire_82 : decode cX6_hire 82 = .ok (.getfield 30, 3) := by decide +kernel
theorem dX6_hire_85 : decode cX6_hire 85 = .ok (.iconst 1, 1) := by decide +kernel
theorem dX6_hire_86 : decode cX6_hire 86 = .ok (.isub, 1) := by decide +kernel
theorem dX6_hire_87 : decode cX6_hire 87 = .ok (.ireturn, 1) := by decide +kernel
theorem dX6_speaks_0 : decode cX6_speaks 0 = .ok (.aload_n 0, 1) := by decide +kernel
theorem dX6_speaks_1 : decode cX6_speaks 1 = .ok (.iload_n 1, 1) := by decide +kernel
theorem dX6_speaks_2 : decode cX6_speaks 2 = .ok (.invokevirtual 40, 3) := by decide +kernel
theorem dX6_speaks_5 : decode cX6_speaks 5 = .ok (.ifCond .eq 20, 3) := by decide +kernel
theorem dX6_speaks_8 : decode cX6_speaks 8 = .ok (.aload_n 0, 1) := by decide +kernel
theorem dX6_speaks_9 : decode cX6_speaks 9 = .ok (.getfield 9, 3) := by decide +kernel
theorem dX6_speaks_12 : decode cX6_speaks 12 = .ok (.iload_n 1, 1) := by decide +kernel
theorem dX6_speaks_13 : decode cX6_speaks 13 = .ok (.iaload, 1) := by decide +kernel
theorem dX6_speaks_14 : decode cX6_speaks 14 = .ok (.iload_n 2, 1) := by decide +kernel
theorem dX6_speaks_15 : decode cX6_speaks 15 = .ok (.ishr, 1) := by decide +kernel
theorem dX6_speaks_16 : decode cX6_speaks 16 = .ok (.iconst 1, 1) := by decide +kernel
theorem dX6_speaks_17 : decode cX6_speaks 17 = .ok (.iand, 1) := by decide +kernel
theorem dX6_speaks_18 : decode cX6_speaks 18 = .ok (.ifCond .eq 7, 3) := by decide +kernel
theorem dX6_speaks_21 : decode cX6_speaks 21 = .ok (.iconst 1, 1) := by decide +kernel
theorem dX6_speaks_22 : decode cX6_speaks 22 = .ok (.goto 4, 3) := by decide +kernel
theorem dX6_speaks_25 : decode cX6_speaks 25 = .ok (.iconst 0, 1) := by decide +kernel
theorem dX6_speaks_26 : decode cX6_speaks 26 = .ok (.ireturn, 1) := by decide +kernel
theorem dX6_shareLanguage_0 : decode cX6_shareLanguage 0 = .ok (.aload_n 0, 1) := by decide +kernel
theorem dX6_shareLanguage_1 : decode cX6_shareLanguage 1 = .ok (.iload_n 1, 1) := by decide +kernel
theorem dX6_shareLanguage_2 : decode cX6_shareLanguage 2 = .ok (.invokevirtual 40, 3) := by decide +kernel
theorem dX6_shareLanguage_5 : decode cX6_shareLanguage 5 = .ok (.ifCond .eq 31, 3) := by decide +kernel
theorem dX6_shareLanguage_8 : decode cX6_shareLanguage 8 = .ok (.aload_n 0, 1) := by decide +kernel
theorem dX6_shareLanguage_9 : decode cX6_shareLanguage 9 = .ok (.iload_n 2, 1) := by decide +kernel
theorem dX6_shareLanguage_10 : decode cX6_shareLanguage 10 = .ok (.invokevirtual 40, 3) := by decide +kernel
theorem dX6_shareLanguage_13 : decode cX6_shareLanguage 13 = .ok (.ifCond .eq 23, 3) := by decide +kernel
theorem dX6_shareLanguage_16 : decode cX6_shareLanguage 16 = .ok (.aload_n 0, 1) := by decide +kernel
theorem dX6_shareLanguage_17 : decode cX6_shareLanguage 17 = .ok (.getfield 9, 3) := by decide +kernel
theorem dX6_shareLanguage_20 : decode cX6_shareLanguage 20 = .ok (.iload_n 1, 1) := by decide +kernel
theorem dX6_shareLanguage_21 : decode cX6_shareLanguage 21 = .ok (.iaload, 1) := by decide +kernel
theorem dX6_shareLanguage_22 : decode cX6_shareLanguage 22 = .ok (.aload_n 0, 1) := by decide +kernel
theorem dX6_shareLanguage_23 : decode cX6_shareLanguage 23 = .ok (.getfield 9, 3) := by decide +kernel
theorem dX6_shareLanguage_26 : decode cX6_shareLanguage 26 = .ok (.iload_n 2, 1) := by decide +kernel
theorem dX6_shareLanguage_27 : decode cX6_shareLanguage 27 = .ok (.iaload, 1) := by decide +kernel
theorem dX6_shareLanguage_28 : decode cX6_shareLanguage 28 = .ok (.iand, 1) := by decide +kernel
theorem dX6_shareLanguage_29 : decode cX6_shareLanguage 29 = .ok (.ifCond .eq 7, 3) := by decide +kernel
theorem dX6_shareLanguage_32 : decode cX6_shareLanguage 32 = .ok (.iconst 1, 1) := by decide +kernel
theorem dX6_shareLanguage_33 : decode cX6_shareLanguage 33 = .ok (.goto 4, 3) := by decide +kernel
theorem dX6_shareLanguage_36 : decode cX6_shareLanguage 36 = .ok (.iconst 0, 1) := by decide +kernel
theorem dX6_shareLanguage_37 : decode cX6_shareLanguage 37 = .ok (.ireturn, 1) := by decide +kernel
theorem dX6_leadToCourt_0 : decode cX6_leadToCourt 0 = .ok (.iload 4, 2) := by decide +kernel
theorem dX6_leadToCourt_2 : decode cX6_leadToCourt 2 = .ok (.iconst (-1), 1) := by decide +kernel
theorem dX6_leadToCourt_3 : decode cX6_leadToCourt 3 = .ok (.if_icmp .eq 8, 3) := by decide +kernel
theorem dX6_leadToCourt_6 : decode cX6_leadToCourt 6 = .ok (.iload 4, 2) := by decide +kernel
theorem dX6_leadToCourt_8 : decode cX6_leadToCourt 8 = .ok (.goto 13, 3) := by decide +kernel
theorem dX6_leadToCourt_11 : decode cX6_leadToCourt 11 = .ok (.iload_n 3, 1) := by decide +kernel
theorem dX6_leadToCourt_12 : decode cX6_leadToCourt 12 = .ok (.iconst (-1), 1) := by decide +kernel
theorem dX6_leadToCourt_13 : decode cX6_leadToCourt 13 = .ok (.if_icmp .eq 7, 3) := by decide +kernel
theorem dX6_leadToCourt_16 : decode cX6_leadToCourt 16 = .ok (.iload_n 3, 1) := by decide +kernel
theorem dX6_leadToCourt_17 : decode cX6_leadToCourt 17 = .ok (.goto 4, 3) := by decide +kernel
theorem dX6_leadToCourt_20 : decode cX6_leadToCourt 20 = .ok (.iload_n 2, 1) := by decide +kernel
theorem dX6_leadToCourt_21 : decode cX6_leadToCourt 21 = .ok (.istore 5, 2) := by decide +kernel
theorem dX6_leadToCourt_23 : decode cX6_leadToCourt 23 = .ok (.aload_n 0, 1) := by decide +kernel
theorem dX6_leadToCourt_24 : decode cX6_leadToCourt 24 = .ok (.iload_n 2, 1) := by decide +kernel
theorem dX6_leadToCourt_25 : decode cX6_leadToCourt 25 = .ok (.iload_n 1, 1) := by decide +kernel
theorem dX6_leadToCourt_26 : decode cX6_leadToCourt 26 = .ok (.invokevirtual 44, 3) := by decide +kernel
theorem dX6_leadToCourt_29 : decode cX6_leadToCourt 29 = .ok (.ifCond .eq 47, 3) := by decide +kernel
theorem dX6_leadToCourt_32 : decode cX6_leadToCourt 32 = .ok (.iload_n 3, 1) := by decide +kernel
theorem dX6_leadToCourt_33 : decode cX6_leadToCourt 33 = .ok (.iconst (-1), 1) := by decide +kernel
theorem dX6_leadToCourt_34 : decode cX6_leadToCourt 34 = .ok (.if_icmp .eq 12, 3) := by decide +kernel
theorem dX6_leadToCourt_37 : decode cX6_leadToCourt 37 = .ok (.aload_n 0, 1) := by decide +kernel
theorem dX6_leadToCourt_38 : decode cX6_leadToCourt 38 = .ok (.iload_n 2, 1) := by decide +kernel
theorem dX6_leadToCourt_39 : decode cX6_leadToCourt 39 = .ok (.iload_n 3, 1) := by decide +kernel
theorem dX6_leadToCourt_40 : decode cX6_leadToCourt 40 = .ok (.invokevirtual 48, 3) := by decide +kernel
theorem dX6_leadToCourt_43 : decode cX6_leadToCourt 43 = .ok (.ifCond .eq 33, 3) := by decide +kernel
theorem dX6_leadToCourt_46 : decode cX6_leadToCourt 46 = .ok (.iload 4, 2) := by decide +kernel
theorem dX6_leadToCourt_48 : decode cX6_leadToCourt 48 = .ok (.iconst (-1), 1) := by decide +kernel
theorem dX6_leadToCourt_49 : decode cX6_leadToCourt 49 = .ok (.if_icmp .eq 13, 3) := by decide +kernel
theorem dX6_leadToCourt_52 : decode cX6_leadToCourt 52 = .ok (.aload_n 0, 1) := by decide +kernel
theorem dX6_leadToCourt_53 : decode cX6_leadToCourt 53 = .ok (.iload_n 3, 1) := by decide +kernel
theorem dX6_leadToCourt_54 : decode cX6_leadToCourt 54 = .ok (.iload 4, 2) := by decide +kernel
theorem dX6_leadToCourt_56 : decode cX6_leadToCourt 56 = .ok (.invokevirtual 48, 3) := by decide +kernel
theorem dX6_leadToCourt_59 : decode cX6_leadToCourt 59 = .ok (.ifCond .eq 17, 3) := by decide +kernel
theorem dX6_leadToCourt_62 : decode cX6_leadToCourt 62 = .ok (.aload_n 0, 1) := by decide +kernel
theorem dX6_leadToCourt_63 : decode cX6_leadToCourt 63 = .ok (.iload 5, 2) := by decide +kernel
theorem dX6_leadToCourt_65 : decode cX6_leadToCourt 65 = .ok (.iconst 0, 1) := by decide +kernel
theorem dX6_leadToCourt_66 : decode cX6_leadToCourt 66 = .ok (.invokevirtual 44, 3) := by decide +kernel
theorem dX6_leadToCourt_69 : decode cX6_leadToCourt 69 = .ok (.ifCond .eq 7, 3) := by decide +kernel
theorem dX6_leadToCourt_72 : decode cX6_leadToCourt 72 = .ok (.iconst 1, 1) := by decide +kernel
theorem dX6_leadToCourt_73 : decode cX6_leadToCourt 73 = .ok (.goto 4, 3) := by decide +kernel
theorem dX6_leadToCourt_76 : decode cX6_leadToCourt 76 = .ok (.iconst 0, 1) := by decide +kernel
theorem dX6_leadToCourt_77 : decode cX6_leadToCourt 77 = .ok (.ireturn, 1) := by decide +kernel
theorem dX6_certifiedFor_0 : decode cX6_certifiedFor 0 = .ok (.iconst 0, 1) := by decide +kernel
theorem dX6_certifiedFor_1 : decode cX6_certifiedFor 1 = .ok (.istore_n 2, 1) := by decide +kernel
theorem dX6_certifiedFor_2 : decode cX6_certifiedFor 2 = .ok (.iconst 0, 1) := by decide +kernel
theorem dX6_certifiedFor_3 : decode cX6_certifiedFor 3 = .ok (.istore_n 3, 1) := by decide +kernel
theorem dX6_certifiedFor_4 : decode cX6_certifiedFor 4 = .ok (.iload_n 3, 1) := by decide +kernel
theorem dX6_certifiedFor_5 : decode cX6_certifiedFor 5 = .ok (.aload_n 0, 1) := by decide +kernel
theorem dX6_certifiedFor_6 : decode cX6_certifiedFor 6 = .ok (.getfield 30, 3) := by decide +kernel
theorem dX6_certifiedFor_9 : decode cX6_certifiedFor 9 = .ok (.if_icmp .ge 29, 3) := by decide +kernel
theorem dX6_certifiedFor_12 : decode cX6_certifiedFor 12 = .ok (.aload_n 0, 1) := by decide +kernel
theorem dX6_certifiedFor_13 : decode cX6_certifiedFor 13 = .ok (.getfield 15, 3) := by decide +kernel
theorem dX6_certifiedFor_16 : decode cX6_certifiedFor 16 = .ok (.iload_n 3, 1) := by decide +kernel
theorem dX6_certifiedFor_17 : decode cX6_certifiedFor 17 = .ok (.iaload, 1) := by decide +kernel
theorem dX6_certifiedFor_18 : decode cX6_certifiedFor 18 = .ok (.iload_n 1, 1) := by decide +kernel
theorem dX6_certifiedFor_19 : decode cX6_certifiedFor 19 = .ok (.ishr, 1) := by decide +kernel
theorem dX6_certifiedFor_20 : decode cX6_certifiedFor 20 = .ok (.iconst 1, 1) := by decide +kernel
theorem dX6_certifiedFor_21 : decode cX6_certifiedFor 21 = .ok (.iand, 1) := by decide +kernel
theorem dX6_certifiedFor_22 : decode cX6_certifiedFor 22 = .ok (.ifCond .eq 10, 3) := by decide +kernel
theorem dX6_certifiedFor_25 : decode cX6_certifiedFor 25 = .ok (.iload_n 2, 1) := by decide +kernel
theorem dX6_certifiedFor_26 : decode cX6_certifiedFor 26 = .ok (.iload_n 3, 1) := by decide +kernel
theorem dX6_certifiedFor_27 : decode cX6_certifiedFor 27 = .ok (.invokestatic 51, 3) := by decide +kernel
theorem dX6_certifiedFor_30 : decode cX6_certifiedFor 30 = .ok (.ior, 1) := by decide +kernel
theorem dX6_certifiedFor_31 : decode cX6_certifiedFor 31 = .ok (.istore_n 2, 1) := by decide +kernel
theorem dX6_certifiedFor_32 : decode cX6_certifiedFor 32 = .ok (.iinc 3 1, 3) := by decide +kernel
theorem dX6_certifiedFor_35 : decode cX6_certifiedFor 35 = .ok (.goto (-31), 3) := by decide +kernel
theorem dX6_certifiedFor_38 : decode cX6_certifiedFor 38 = .ok (.iload_n 2, 1) := by decide +kernel
theorem dX6_certifiedFor_39 : decode cX6_certifiedFor 39 = .ok (.ireturn, 1) := by decide +kernel
theorem dX6_tiredAbove_0 : decode cX6_tiredAbove 0 = .ok (.iconst 0, 1) := by decide +kernel
theorem dX6_tiredAbove_1 : decode cX6_tiredAbove 1 = .ok (.istore_n 2, 1) := by decide +kernel
theorem dX6_tiredAbove_2 : decode cX6_tiredAbove 2 = .ok (.iconst 0, 1) := by decide +kernel
theorem dX6_tiredAbove_3 : decode cX6_tiredAbove 3 = .ok (.istore_n 3, 1) := by decide +kernel
theorem dX6_tiredAbove_4 : decode cX6_tiredAbove 4 = .ok (.iload_n 3, 1) := by decide +kernel
theorem dX6_tiredAbove_5 : decode cX6_tiredAbove 5 = .ok (.aload_n 0, 1) := by decide +kernel
theorem dX6_tiredAbove_6 : decode cX6_tiredAbove 6 = .ok (.getfield 30, 3) := by decide +kernel
theorem dX6_tiredAbove_9 : decode cX6_tiredAbove 9 = .ok (.if_icmp .ge 26, 3) := by decide +kernel
theorem dX6_tiredAbove_12 : decode cX6_tiredAbove 12 = .ok (.aload_n 0, 1) := by decide +kernel
theorem dX6_tiredAbove_13 : decode cX6_tiredAbove 13 = .ok (.getfield 21, 3) := by decide +kernel
theorem dX6_tiredAbove_16 : decode cX6_tiredAbove 16 = .ok (.iload_n 3, 1) := by decide +kernel
theorem dX6_tiredAbove_17 : decode cX6_tiredAbove 17 = .ok (.iaload, 1) := by decide +kernel
theorem dX6_tiredAbove_18 : decode cX6_tiredAbove 18 = .ok (.iload_n 1, 1) := by decide +kernel
theorem dX6_tiredAbove_19 : decode cX6_tiredAbove 19 = .ok (.if_icmp .le 10, 3) := by decide +kernel
theorem dX6_tiredAbove_22 : decode cX6_tiredAbove 22 = .ok (.iload_n 2, 1) := by decide +kernel
theorem dX6_tiredAbove_23 : decode cX6_tiredAbove 23 = .ok (.iload_n 3, 1) := by decide +kernel
theorem dX6_tiredAbove_24 : decode cX6_tiredAbove 24 = .ok (.invokestatic 51, 3) := by decide +kernel
theorem dX6_tiredAbove_27 : decode cX6_tiredAbove 27 = .ok (.ior, 1) := by decide +kernel
theorem dX6_tiredAbove_28 : decode cX6_tiredAbove 28 = .ok (.istore_n 2, 1) := by decide +kernel
theorem dX6_tiredAbove_29 : decode cX6_tiredAbove 29 = .ok (.iinc 3 1, 3) := by decide +kernel
theorem dX6_tiredAbove_32 : decode cX6_tiredAbove 32 = .ok (.goto (-28), 3) := by decide +kernel
theorem dX6_tiredAbove_35 : decode cX6_tiredAbove 35 = .ok (.iload_n 2, 1) := by decide +kernel
theorem dX6_tiredAbove_36 : decode cX6_tiredAbove 36 = .ok (.ireturn, 1) := by decide +kernel
theorem dX6_work_0 : decode cX6_work 0 = .ok (.aload_n 0, 1) := by decide +kernel
theorem dX6_work_1 : decode cX6_work 1 = .ok (.iload_n 1, 1) := by decide +kernel
theorem dX6_work_2 : decode cX6_work 2 = .ok (.invokevirtual 40, 3) := by decide +kernel
theorem dX6_work_5 : decode cX6_work 5 = .ok (.ifCond .eq 33, 3) := by decide +kernel
theorem dX6_work_8 : decode cX6_work 8 = .ok (.aload_n 0, 1) := by decide +kernel
theorem dX6_work_9 : decode cX6_work 9 = .ok (.getfield 21, 3) := by decide +kernel
theorem dX6_work_12 : decode cX6_work 12 = .ok (.iload_n 1, 1) := by decide +kernel
theorem dX6_work_13 : decode cX6_work 13 = .ok (.sipush 1000, 3) := by decide +kernel
theorem dX6_work_16 : decode cX6_work 16 = .ok (.aload_n 0, 1) := by decide +kernel
theorem dX6_work_17 : decode cX6_work 17 = .ok (.getfield 21, 3) := by decide +kernel
theorem dX6_work_20 : decode cX6_work 20 = .ok (.iload_n 1, 1) := by decide +kernel
theorem dX6_work_21 : decode cX6_work 21 = .ok (.iaload, 1) := by decide +kernel
theorem dX6_work_22 : decode cX6_work 22 = .ok (.iload_n 2, 1) := by decide +kernel
theorem dX6_work_23 : decode cX6_work 23 = .ok (.iadd, 1) := by decide +kernel
theorem dX6_work_24 : decode cX6_work 24 = .ok (.invokestatic 55, 3) := by decide +kernel
theorem dX6_work_27 : decode cX6_work 27 = .ok (.iastore, 1) := by decide +kernel
theorem dX6_work_28 : decode cX6_work 28 = .ok (.aload_n 0, 1) := by decide +kernel
theorem dX6_work_29 : decode cX6_work 29 = .ok (.getfield 27, 3) := by decide +kernel
theorem dX6_work_32 : decode cX6_work 32 = .ok (.iload_n 1, 1) := by decide +kernel
theorem dX6_work_33 : decode cX6_work 33 = .ok (.dup2, 1) := by decide +kernel
theorem dX6_work_34 : decode cX6_work 34 = .ok (.iaload, 1) := by decide +kernel
theorem dX6_work_35 : decode cX6_work 35 = .ok (.iconst 1, 1) := by decide +kernel
theorem dX6_work_36 : decode cX6_work 36 = .ok (.iadd, 1) := by decide +kernel
theorem dX6_work_37 : decode cX6_work 37 = .ok (.iastore, 1) := by decide +kernel
theorem dX6_work_38 : decode cX6_work 38 = .ok (.return_, 1) := by decide +kernel
theorem dX6_rest_0 : decode cX6_rest 0 = .ok (.aload_n 0, 1) := by decide +kernel
theorem dX6_rest_1 : decode cX6_rest 1 = .ok (.iload_n 1, 1) := by decide +kernel
theorem dX6_rest_2 : decode cX6_rest 2 = .ok (.invokevirtual 40, 3) := by decide +kernel
theorem dX6_rest_5 : decode cX6_rest 5 = .ok (.ifCond .eq 21, 3) := by decide +kernel
theorem dX6_rest_8 : decode cX6_rest 8 = .ok (.aload_n 0, 1) := by decide +kernel
theorem dX6_rest_9 : decode cX6_rest 9 = .ok (.getfield 21, 3) := by decide +kernel
theorem dX6_rest_12 : decode cX6_rest 12 = .ok (.iload_n 1, 1) := by decide +kernel
theorem dX6_rest_13 : decode cX6_rest 13 = .ok (.iconst 0, 1) := by decide +kernel
theorem dX6_rest_14 : decode cX6_rest 14 = .ok (.aload_n 0, 1) := by decide +kernel
theorem dX6_rest_15 : decode cX6_rest 15 = .ok (.getfield 21, 3) := by decide +kernel
theorem dX6_rest_18 : decode cX6_rest 18 = .ok (.iload_n 1, 1) := by decide +kernel
theorem dX6_rest_19 : decode cX6_rest 19 = .ok (.iaload, 1) := by decide +kernel
theorem dX6_rest_20 : decode cX6_rest 20 = .ok (.iload_n 2, 1) := by decide +kernel
theorem dX6_rest_21 : decode cX6_rest 21 = .ok (.isub, 1) := by decide +kernel
theorem dX6_rest_22 : decode cX6_rest 22 = .ok (.invokestatic 61, 3) := by decide +kernel
theorem dX6_rest_25 : decode cX6_rest 25 = .ok (.iastore, 1) := by decide +kernel
theorem dX6_rest_26 : decode cX6_rest 26 = .ok (.return_, 1) := by decide +kernel
theorem dX6_pay_0 : decode cX6_pay 0 = .ok (.aload_n 0, 1) := by decide +kernel
theorem dX6_pay_1 : decode cX6_pay 1 = .ok (.iload_n 1, 1) := by decide +kernel
theorem dX6_pay_2 : decode cX6_pay 2 = .ok (.invokevirtual 40, 3) := by decide +kernel
theorem dX6_pay_5 : decode cX6_pay 5 = .ok (.ifCond .eq 13, 3) := by decide +kernel
theorem dX6_pay_8 : decode cX6_pay 8 = .ok (.aload_n 0, 1) := by decide +kernel
theorem dX6_pay_9 : decode cX6_pay 9 = .ok (.getfield 24, 3) := by decide +kernel
theorem dX6_pay_12 : decode cX6_pay 12 = .ok (.iload_n 1, 1) := by decide +kernel
theorem dX6_pay_13 : decode cX6_pay 13 = .ok (.dup2, 1) := by decide +kernel
theorem dX6_pay_14 : decode cX6_pay 14 = .ok (.iaload, 1) := by decide +kernel
theorem dX6_pay_15 : decode cX6_pay 15 = .ok (.iload_n 2, 1) := by decide +kernel
theorem dX6_pay_16 : decode cX6_pay 16 = .ok (.iadd, 1) := by decide +kernel
theorem dX6_pay_17 : decode cX6_pay 17 = .ok (.iastore, 1) := by decide +kernel
theorem dX6_pay_18 : decode cX6_pay 18 = .ok (.return_, 1) := by decide +kernel
theorem dX7_init_0 : decode cX7_init 0 = .ok (.aload_n 0, 1) := by decide +kernel
theorem dX7_init_1 : decode cX7_init 1 = .ok (.invokespecial 1, 3) := by decide +kernel
theorem dX7_init_4 : decode cX7_init 4 = .ok (.aload_n 0, 1) := by decide +kernel
theorem dX7_init_5 : decode cX7_init 5 = .ok (.new 7, 3) := by decide +kernel
theorem dX7_init_8 : decode cX7_init 8 = .ok (.dup, 1) := by decide +kernel
theorem dX7_init_9 : decode cX7_init 9 = .ok (.invokespecial 9, 3) := by decide +kernel
theorem dX7_init_12 : decode cX7_init 12 = .ok (.putfield 10, 3) := by decide +kernel
theorem dX7_init_15 : decode cX7_init 15 = .ok (.aload_n 0, 1) := by decide +kernel
theorem dX7_init_16 : decode cX7_init 16 = .ok (.new 7, 3) := by decide +kernel
theorem dX7_init_19 : decode cX7_init 19 = .ok (.dup, 1) := by decide +kernel
theorem dX7_init_20 : decode cX7_init 20 = .ok (.invokespecial 9, 3) := by decide +kernel
theorem dX7_init_23 : decode cX7_init 23 = .ok (.putfield 16, 3) := by decide +kernel
theorem dX7_init_26 : decode cX7_init 26 = .ok (.aload_n 0, 1) := by decide +kernel
theorem dX7_init_27 : decode cX7_init 27 = .ok (.new 19, 3) := by decide +kernel
theorem dX7_init_30 : decode cX7_init 30 = .ok (.dup, 1) := by decide +kernel
theorem dX7_init_31 : decode cX7_init 31 = .ok (.invokespecial 21, 3) := by decide +kernel
theorem dX7_init_34 : decode cX7_init 34 = .ok (.putfield 22, 3) := by decide +kernel
theorem dX7_init_37 : decode cX7_init 37 = .ok (.aload_n 0, 1) := by decide +kernel
theorem dX7_init_38 : decode cX7_init 38 = .ok (.new 26, 3) := by decide +kernel
theorem dX7_init_41 : decode cX7_init 41 = .ok (.dup, 1) := by decide +kernel
theorem dX7_init_42 : decode cX7_init 42 = .ok (.invokespecial 28, 3) := by decide +kernel
theorem dX7_init_45 : decode cX7_init 45 = .ok (.putfield 29, 3) := by decide +kernel
theorem dX7_init_48 : decode cX7_init 48 = .ok (.aload_n 0, 1) := by decide +kernel
theorem dX7_init_49 : decode cX7_init 49 = .ok (.new 33, 3) := by decide +kernel
theorem dX7_init_52 : decode cX7_init 52 = .ok (.dup, 1) := by decide +kernel
theorem dX7_init_53 : decode cX7_init 53 = .ok (.invokespecial 35, 3) := by decide +kernel
theorem dX7_init_56 : decode cX7_init 56 = .ok (.putfield 36, 3) := by decide +kernel
theorem dX7_init_59 : decode cX7_init 59 = .ok (.aload_n 0, 1) := by decide +kernel
theorem dX7_init_60 : decode cX7_init 60 = .ok (.new 40, 3) := by decide +kernel
theorem dX7_init_63 : decode cX7_init 63 = .ok (.dup, 1) := by decide +kernel
theorem dX7_init_64 : decode cX7_init 64 = .ok (.invokespecial 42, 3) := by decide +kernel
theorem dX7_init_67 : decode cX7_init 67 = .ok (.putfield 43, 3) := by decide +kernel
theorem dX7_init_70 : decode cX7_init 70 = .ok (.return_, 1) := by decide +kernel
theorem dX7_addInterpreter_0 : decode cX7_addInterpreter 0 = .ok (.iload_n 1, 1) := by decide +kernel
theorem dX7_addInterpreter_1 : decode cX7_addInterpreter 1 = .ok (.iconst 1, 1) := by decide +kernel
theorem dX7_addInterpreter_2 : decode cX7_addInterpreter 2 = .ok (.sipush 1023, 3) := by decide +kernel
theorem dX7_addInterpreter_5 : decode cX7_addInterpreter 5 = .ok (.invokestatic 47, 3) := by decide +kernel
theorem dX7_addInterpreter_8 : decode cX7_addInterpreter 8 = .ok (.ifCond .eq 31, 3) := by decide +kernel
theorem dX7_addInterpreter_11 : decode cX7_addInterpreter 11 = .ok (.iload_n 1, 1) := by decide +kernel
theorem dX7_addInterpreter_12 : decode cX7_addInterpreter 12 = .ok (.invokestatic 51, 3) := by decide +kernel
theorem dX7_addInterpreter_15 : decode cX7_addInterpreter 15 = .ok (.iconst 2, 1) := by decide +kernel
theorem dX7_addInterpreter_16 : decode cX7_addInterpreter 16 = .ok (.if_icmp .lt 23, 3) := by decide +kernel
theorem dX7_addInterpreter_19 : decode cX7_addInterpreter 19 = .ok (.iload_n 2, 1) := by decide +kernel
theorem dX7_addInterpreter_20 : decode cX7_addInterpreter 20 = .ok (.iconst 0, 1) := by decide +kernel
theorem dX7_addInterpreter_21 : decode cX7_addInterpreter 21 = .ok (.bipush 7, 2) := by decide +kernel
theorem dX7_addInterpreter_23 : decode cX7_addInterpreter 23 = .ok (.invokestatic 47, 3) := by decide +kernel
theorem dX7_addInterpreter_26 : decode cX7_addInterpreter 26 = .ok (.ifCond .eq 13, 3) := by decide +kernel
theorem dX7_addInterpreter_29 : decode cX7_addInterpreter 29 = .ok (.iload_n 3, 1) := by decide +kernel
theorem dX7_addInterpreter_30 : decode cX7_addInterpreter 30 = .ok (.iconst 1, 1) := by decide +kernel
theorem dX7_addInterpreter_31 : decode cX7_addInterpreter 31 = .ok (.bipush 100, 2) := by decide +kernel
theorem dX7_addInterpreter_33 : decode cX7_addInterpreter 33 = .ok (.invokestatic 47, 3) := by decide +kernel
theorem dX7_addInterpreter_36 : decode cX7_addInterpreter 36 = .ok (.ifCond .ne 13, 3) := by decide +kernel
theorem dX7_addInterpreter_39 : decode cX7_addInterpreter 39 = .ok (.new 57, 3) := by decide +kernel
theorem dX7_addInterpreter_42 : decode cX7_addInterpreter 42 = .ok (.dup, 1) := by decide +kernel
theorem dX7_addInterpreter_43 : decode cX7_addInterpreter 43 = .ok (.ldc 59, 2) := by decide +kernel
theorem dX7_addInterpreter_45 : decode cX7_addInterpreter 45 = .ok (.invokespecial 61, 3) := by decide +kernel
theorem dX7_addInterpreter_48 : decode cX7_addInterpreter 48 = .ok (.athrow, 1) := by decide +kernel
theorem dX7_addInterpreter_49 : decode cX7_addInterpreter 49 = .ok (.aload_n 0, 1) := by decide +kernel
theorem dX7_addInterpreter_50 : decode cX7_addInterpreter 50 = .ok (.getfield 10, 3) := by decide +kernel
theorem dX7_addInterpreter_53 : decode cX7_addInterpreter 53 = .ok (.getfield 64, 3) := by decide +kernel
theorem dX7_addInterpreter_56 : decode cX7_addInterpreter 56 = .ok (.getfield 68, 3) := by decide +kernel
theorem dX7_addInterpreter_59 : decode cX7_addInterpreter 59 = .ok (.bipush 10, 2) := by decide +kernel
theorem dX7_addInterpreter_61 : decode cX7_addInterpreter 61 = .ok (.if_icmp .lt 13, 3) := by decide +kernel
theorem dX7_addInterpreter_64 : decode cX7_addInterpreter 64 = .ok (.new 74, 3) := by decide +kernel
theorem dX7_addInterpreter_67 : decode cX7_addInterpreter 67 = .ok (.dup, 1) := by decide +kernel
theorem dX7_addInterpreter_68 : decode cX7_addInterpreter 68 = .ok (.ldc 76, 2) := by decide +kernel
theorem dX7_addInterpreter_70 : decode cX7_addInterpreter 70 = .ok (.invokespecial 78, 3) := by decide +kernel
theorem dX7_addInterpreter_73 : decode cX7_addInterpreter 73 = .ok (.athrow, 1) := by decide +kernel
theorem dX7_addInterpreter_74 : decode cX7_addInterpreter 74 = .ok (.aload_n 0, 1) := by decide +kernel
theorem dX7_addInterpreter_75 : decode cX7_addInterpreter 75 = .ok (.getfield 22, 3) := by decide +kernel
theorem dX7_addInterpreter_78 : decode cX7_addInterpreter 78 = .ok (.aload_n 0, 1) := by decide +kernel
theorem dX7_addInterpreter_79 : decode cX7_addInterpreter 79 = .ok (.getfield 10, 3) := by decide +kernel
theorem dX7_addInterpreter_82 : decode cX7_addInterpreter 82 = .ok (.invokevirtual 79, 3) := by decide +kernel
theorem dX7_addInterpreter_85 : decode cX7_addInterpreter 85 = .ok (.aload_n 0, 1) := by decide +kernel
theorem dX7_addInterpreter_86 : decode cX7_addInterpreter 86 = .ok (.getfield 10, 3) := by decide +kernel
theorem dX7_addInterpreter_89 : decode cX7_addInterpreter 89 = .ok (.getfield 64, 3) := by decide +kernel
theorem dX7_addInterpreter_92 : decode cX7_addInterpreter 92 = .ok (.iload_n 1, 1) := by decide +kernel
theorem dX7_addInterpreter_93 : decode cX7_addInterpreter 93 = .ok (.iload_n 2, 1) := by decide +kernel
theorem dX7_addInterpreter_94 : decode cX7_addInterpreter 94 = .ok (.iload_n 3, 1) := by decide +kernel
theorem dX7_addInterpreter_95 : decode cX7_addInterpreter 95 = .ok (.invokevirtual 83, 3) := by decide +kernel
theorem dX7_addInterpreter_98 : decode cX7_addInterpreter 98 = .ok (.ireturn, 1) := by decide +kernel
theorem dX7_addHearing_0 : decode cX7_addHearing 0 = .ok (.iload_n 1, 1) := by decide +kernel
theorem dX7_addHearing_1 : decode cX7_addHearing 1 = .ok (.iconst 0, 1) := by decide +kernel
theorem dX7_addHearing_2 : decode cX7_addHearing 2 = .ok (.iconst 2, 1) := by decide +kernel
theorem dX7_addHearing_3 : decode cX7_addHearing 3 = .ok (.invokestatic 47, 3) := by decide +kernel
theorem dX7_addHearing_6 : decode cX7_addHearing 6 = .ok (.ifCond .eq 37, 3) := by decide +kernel
theorem dX7_addHearing_9 : decode cX7_addHearing 9 = .ok (.iload_n 2, 1) := by decide +kernel
theorem dX7_addHearing_10 : decode cX7_addHearing 10 = .ok (.iconst 1, 1) := by decide +kernel
theorem dX7_addHearing_11 : decode cX7_addHearing 11 = .ok (.bipush 9, 2) := by decide +kernel
theorem dX7_addHearing_13 : decode cX7_addHearing 13 = .ok (.invokestatic 47, 3) := by decide +kernel
theorem dX7_addHearing_16 : decode cX7_addHearing 16 = .ok (.ifCond .eq 27, 3) := by decide +kernel
theorem dX7_addHearing_19 : decode cX7_addHearing 19 = .ok (.iload_n 3, 1) := by decide +kernel
theorem dX7_addHearing_20 : decode cX7_addHearing 20 = .ok (.iconst 1, 1) := by decide +kernel
theorem dX7_addHearing_21 : decode cX7_addHearing 21 = .ok (.sipush 2000, 3) := by decide +kernel
theorem dX7_addHearing_24 : decode cX7_addHearing 24 = .ok (.invokestatic 47, 3) := by decide +kernel
theorem dX7_addHearing_27 : decode cX7_addHearing 27 = .ok (.ifCond .eq 16, 3) := by decide +kernel
theorem dX7_addHearing_30 : decode cX7_addHearing 30 = .ok (.iload 4, 2) := by decide +kernel
theorem dX7_addHearing_32 : decode cX7_addHearing 32 = .ok (.bipush 10, 2) := by decide +kernel
theorem dX7_addHearing_34 : decode cX7_addHearing 34 = .ok (.sipush 240, 3) := by decide +kernel
theorem dX7_addHearing_37 : decode cX7_addHearing 37 = .ok (.invokestatic 47, 3) := by decide +kernel
theorem dX7_addHearing_40 : decode cX7_addHearing 40 = .ok (.ifCond .ne 13, 3) := by decide +kernel
theorem dX7_addHearing_43 : decode cX7_addHearing 43 = .ok (.new 57, 3) := by decide +kernel
theorem dX7_addHearing_46 : decode cX7_addHearing 46 = .ok (.dup, 1) := by decide +kernel
theorem dX7_addHearing_47 : decode cX7_addHearing 47 = .ok (.ldc 87, 2) := by decide +kernel
theorem dX7_addHearing_49 : decode cX7_addHearing 49 = .ok (.invokespecial 61, 3) := by decide +kernel
theorem dX7_addHearing_52 : decode cX7_addHearing 52 = .ok (.athrow, 1) := by decide +kernel
theorem dX7_addHearing_53 : decode cX7_addHearing 53 = .ok (.aload_n 0, 1) := by decide +kernel
theorem dX7_addHearing_54 : decode cX7_addHearing 54 = .ok (.getfield 10, 3) := by decide +kernel
theorem dX7_addHearing_57 : decode cX7_addHearing 57 = .ok (.getfield 89, 3) := by decide +kernel
theorem dX7_addHearing_60 : decode cX7_addHearing 60 = .ok (.getfield 93, 3) := by decide +kernel
theorem dX7_addHearing_63 : decode cX7_addHearing 63 = .ok (.bipush 30, 2) := by decide +kernel
theorem dX7_addHearing_65 : decode cX7_addHearing 65 = .ok (.if_icmp .lt 13, 3) := by decide +kernel
theorem dX7_addHearing_68 : decode cX7_addHearing 68 = .ok (.new 74, 3) := by decide +kernel
theorem dX7_addHearing_71 : decode cX7_addHearing 71 = .ok (.dup, 1) := by decide +kernel
theorem dX7_addHearing_72 : decode cX7_addHearing 72 = .ok (.ldc 96, 2) := by decide +kernel
theorem dX7_addHearing_74 : decode cX7_addHearing 74 = .ok (.invokespecial 78, 3) := by decide +kernel
theorem dX7_addHearing_77 : decode cX7_addHearing 77 = .ok (.athrow, 1) := by decide +kernel
theorem dX7_addHearing_78 : decode cX7_addHearing 78 = .ok (.aload_n 0, 1) := by decide +kernel
theorem dX7_addHearing_79 : decode cX7_addHearing 79 = .ok (.getfield 22, 3) := by decide +kernel
theorem dX7_addHearing_82 : decode cX7_addHearing 82 = .ok (.aload_n 0, 1) := by decide +kernel
theorem dX7_addHearing_83 : decode cX7_addHearing 83 = .ok (.getfield 10, 3) := by decide +kernel
theorem dX7_addHearing_86 : decode cX7_addHearing 86 = .ok (.invokevirtual 79, 3) := by decide +kernel
theorem dX7_addHearing_89 : decode cX7_addHearing 89 = .ok (.aload_n 0, 1) := by decide +kernel
theorem dX7_addHearing_90 : decode cX7_addHearing 90 = .ok (.getfield 10, 3) := by decide +kernel
theorem dX7_addHearing_93 : decode cX7_addHearing 93 = .ok (.getfield 89, 3) := by decide +kernel
theorem dX7_addHearing_96 : decode cX7_addHearing 96 = .ok (.iload_n 1, 1) := by decide +kernel
theorem dX7_addHearing_97 : decode cX7_addHearing 97 = .ok (.iload_n 2, 1) := by decide +kernel
theorem dX7_addHearing_98 : decode cX7_addHearing 98 = .ok (.aload_n 0, 1) := by decide +kernel
theorem dX7_addHearing_99 : decode cX7_addHearing 99 = .ok (.getfield 10, 3) := by decide +kernel
theorem dX7_addHearing_102 : decode cX7_addHearing 102 = .ok (.getfield 98, 3) := by decide +kernel
theorem dX7_addHearing_105 : decode cX7_addHearing 105 = .ok (.iload_n 3, 1) := by decide +kernel
theorem dX7_addHearing_106 : decode cX7_addHearing 106 = .ok (.iadd, 1) := by decide +kernel
theorem dX7_addHearing_107 : decode cX7_addHearing 107 = .ok (.iload 4, 2) := by decide +kernel
theorem dX7_addHearing_109 : decode cX7_addHearing 109 = .ok (.invokevirtual 101, 3) := by decide +kernel
theorem dX7_addHearing_112 : decode cX7_addHearing 112 = .ok (.ireturn, 1) := by decide +kernel
theorem dX7_certify_0 : decode cX7_certify 0 = .ok (.aload_n 0, 1) := by decide +kernel
theorem dX7_certify_1 : decode cX7_certify 1 = .ok (.getfield 10, 3) := by decide +kernel
theorem dX7_certify_4 : decode cX7_certify 4 = .ok (.getfield 64, 3) := by decide +kernel
theorem dX7_certify_7 : decode cX7_certify 7 = .ok (.iload_n 1, 1) := by decide +kernel
theorem dX7_certify_8 : decode cX7_certify 8 = .ok (.invokevirtual 105, 3) := by decide +kernel
theorem dX7_certify_11 : decode cX7_certify 11 = .ok (.ifCond .ne 13, 3) := by decide +kernel
theorem dX7_certify_14 : decode cX7_certify 14 = .ok (.new 109, 3) := by decide +kernel
theorem dX7_certify_17 : decode cX7_certify 17 = .ok (.dup, 1) := by decide +kernel
theorem dX7_certify_18 : decode cX7_certify 18 = .ok (.ldc 111, 2) := by decide +kernel
theorem dX7_certify_20 : decode cX7_certify 20 = .ok (.invokespecial 113, 3) := by decide +kernel
theorem dX7_certify_23 : decode cX7_certify 23 = .ok (.athrow, 1) := by decide +kernel
theorem dX7_certify_24 : decode cX7_certify 24 = .ok (.iload_n 2, 1) := by decide +kernel
theorem dX7_certify_25 : decode cX7_certify 25 = .ok (.iconst 0, 1) := by decide +kernel
theorem dX7_certify_26 : decode cX7_certify 26 = .ok (.bipush 7, 2) := by decide +kernel
theorem dX7_certify_28 : decode cX7_certify 28 = .ok (.invokestatic 47, 3) := by decide +kernel
theorem dX7_certify_31 : decode cX7_certify 31 = .ok (.ifCond .ne 13, 3) := by decide +kernel
theorem dX7_certify_34 : decode cX7_certify 34 = .ok (.new 57, 3) := by decide +kernel
theorem dX7_certify_37 : decode cX7_certify 37 = .ok (.dup, 1) := by decide +kernel
theorem dX7_certify_38 : decode cX7_certify 38 = .ok (.ldc 114, 2) := by decide +kernel
theorem dX7_certify_40 : decode cX7_certify 40 = .ok (.invokespecial 61, 3) := by decide +kernel
theorem dX7_certify_43 : decode cX7_certify 43 = .ok (.athrow, 1) := by decide +kernel
theorem dX7_certify_44 : decode cX7_certify 44 = .ok (.aload_n 0, 1) := by decide +kernel
theorem dX7_certify_45 : decode cX7_certify 45 = .ok (.getfield 22, 3) := by decide +kernel
theorem dX7_certify_48 : decode cX7_certify 48 = .ok (.aload_n 0, 1) := by decide +kernel
theorem dX7_certify_49 : decode cX7_certify 49 = .ok (.getfield 10, 3) := by decide +kernel
theorem dX7_certify_52 : decode cX7_certify 52 = .ok (.invokevirtual 79, 3) := by decide +kernel
theorem dX7_certify_55 : decode cX7_certify 55 = .ok (.aload_n 0, 1) := by decide +kernel
theorem dX7_certify_56 : decode cX7_certify 56 = .ok (.getfield 10, 3) := by decide +kernel
theorem dX7_certify_59 : decode cX7_certify 59 = .ok (.getfield 64, 3) := by decide +kernel
theorem dX7_certify_62 : decode cX7_certify 62 = .ok (.getfield 116, 3) := by decide +kernel
theorem dX7_certify_65 : decode cX7_certify 65 = .ok (.iload_n 1, 1) := by decide +kernel
theorem dX7_certify_66 : decode cX7_certify 66 = .ok (.iaload, 1) := by decide +kernel
theorem dX7_certify_67 : decode cX7_certify 67 = .ok (.istore_n 3, 1) := by decide +kernel
theorem dX7_certify_68 : decode cX7_certify 68 = .ok (.aload_n 0, 1) := by decide +kernel
theorem dX7_certify_69 : decode cX7_certify 69 = .ok (.getfield 10, 3) := by decide +kernel
theorem dX7_certify_72 : decode cX7_certify 72 = .ok (.getfield 64, 3) := by decide +kernel
theorem dX7_certify_75 : decode cX7_certify 75 = .ok (.getfield 116, 3) := by decide +kernel
theorem dX7_certify_78 : decode cX7_certify 78 = .ok (.iload_n 1, 1) := by decide +kernel
theorem dX7_certify_79 : decode cX7_certify 79 = .ok (.iload_n 2, 1) := by decide +kernel
theorem dX7_certify_80 : decode cX7_certify 80 = .ok (.iastore, 1) := by decide +kernel
theorem dX7_certify_81 : decode cX7_certify 81 = .ok (.iload_n 3, 1) := by decide +kernel
theorem dX7_certify_82 : decode cX7_certify 82 = .ok (.ireturn, 1) := by decide +kernel
theorem dX7_set_0 : decode cX7_set 0 = .ok (.iload_n 1, 1) := by decide +kernel
theorem dX7_set_1 : decode cX7_set 1 = .ok (.invokestatic 120, 3) := by decide +kernel
theorem dX7_set_4 : decode cX7_set 4 = .ok (.ifCond .ne 13, 3) := by decide +kernel
theorem dX7_set_7 : decode cX7_set 7 = .ok (.new 109, 3) := by decide +kernel
theorem dX7_set_10 : decode cX7_set 10 = .ok (.dup, 1) := by decide +kernel
theorem dX7_set_11 : decode cX7_set 11 = .ok (.ldc 123, 2) := by decide +kernel
theorem dX7_set_13 : decode cX7_set 13 = .ok (.invokespecial 113, 3) := by decide +kernel
theorem dX7_set_16 : decode cX7_set 16 = .ok (.athrow, 1) := by decide +kernel
theorem dX7_set_17 : decode cX7_set 17 = .ok (.iload_n 2, 1) := by decide +kernel
theorem dX7_set_18 : decode cX7_set 18 = .ok (.iconst 0, 1) := by decide +kernel
theorem dX7_set_19 : decode cX7_set 19 = .ok (.getstatic 125, 3) := by decide +kernel
theorem dX7_set_22 : decode cX7_set 22 = .ok (.iload_n 1, 1) := by decide +kernel
theorem dX7_set_23 : decode cX7_set 23 = .ok (.iaload, 1) := by decide +kernel
theorem dX7_set_24 : decode cX7_set 24 = .ok (.invokestatic 47, 3) := by decide +kernel
theorem dX7_set_27 : decode cX7_set 27 = .ok (.ifCond .ne 13, 3) := by decide +kernel
theorem dX7_set_30 : decode cX7_set 30 = .ok (.new 57, 3) := by decide +kernel
theorem dX7_set_33 : decode cX7_set 33 = .ok (.dup, 1) := by decide +kernel
theorem dX7_set_34 : decode cX7_set 34 = .ok (.ldc 128, 2) := by decide +kernel
theorem dX7_set_36 : decode cX7_set 36 = .ok (.invokespecial 61, 3) := by decide +kernel
theorem dX7_set_39 : decode cX7_set 39 = .ok (.athrow, 1) := by decide +kernel
theorem dX7_set_40 : decode cX7_set 40 = .ok (.aload_n 0, 1) := by decide +kernel
theorem dX7_set_41 : decode cX7_set 41 = .ok (.getfield 22, 3) := by decide +kernel
theorem dX7_set_44 : decode cX7_set 44 = .ok (.aload_n 0, 1) := by decide +kernel
theorem dX7_set_45 : decode cX7_set 45 = .ok (.getfield 10, 3) := by decide +kernel
theorem dX7_set_48 : decode cX7_set 48 = .ok (.invokevirtual 79, 3) := by decide +kernel
theorem dX7_set_51 : decode cX7_set 51 = .ok (.aload_n 0, 1) := by decide +kernel
theorem dX7_set_52 : decode cX7_set 52 = .ok (.getfield 10, 3) := by decide +kernel
theorem dX7_set_55 : decode cX7_set 55 = .ok (.getfield 130, 3) := by decide +kernel
theorem dX7_set_58 : decode cX7_set 58 = .ok (.iload_n 1, 1) := by decide +kernel
theorem dX7_set_59 : decode cX7_set 59 = .ok (.iaload, 1) := by decide +kernel
theorem dX7_set_60 : decode cX7_set 60 = .ok (.istore_n 3, 1) := by decide +kernel
theorem dX7_set_61 : decode cX7_set 61 = .ok (.aload_n 0, 1) := by decide +kernel
theorem dX7_set_62 : decode cX7_set 62 = .ok (.getfield 10, 3) := by decide +kernel
theorem dX7_set_65 : decode cX7_set 65 = .ok (.getfield 130, 3) := by decide +kernel
theorem dX7_set_68 : decode cX7_set 68 = .ok (.iload_n 1, 1) := by decide +kernel
theorem dX7_set_69 : decode cX7_set 69 = .ok (.iload_n 2, 1) := by decide +kernel
theorem dX7_set_70 : decode cX7_set 70 = .ok (.iastore, 1) := by decide +kernel
theorem dX7_set_71 : decode cX7_set 71 = .ok (.iload_n 3, 1) := by decide +kernel
theorem dX7_set_72 : decode cX7_set 72 = .ok (.ireturn, 1) := by decide +kernel
theorem dX7_assign_0 : decode cX7_assign 0 = .ok (.aload_n 0, 1) := by decide +kernel
theorem dX7_assign_1 : decode cX7_assign 1 = .ok (.getfield 10, 3) := by decide +kernel
theorem dX7_assign_4 : decode cX7_assign 4 = .ok (.getfield 89, 3) := by decide +kernel
theorem dX7_assign_7 : decode cX7_assign 7 = .ok (.iload_n 1, 1) := by decide +kernel
theorem dX7_assign_8 : decode cX7_assign 8 = .ok (.invokevirtual 133, 3) := by decide +kernel
theorem dX7_assign_11 : decode cX7_assign 11 = .ok (.ifCond .eq 14, 3) := by decide +kernel
theorem dX7_assign_14 : decode cX7_assign 14 = .ok (.aload_n 0, 1) := by decide +kernel
theorem dX7_assign_15 : decode cX7_assign 15 = .ok (.iload_n 2, 1) := by decide +kernel
theorem dX7_assign_16 : decode cX7_assign 16 = .ok (.iload_n 3, 1) := by decide +kernel
theorem dX7_assign_17 : decode cX7_assign 17 = .ok (.iload 4, 2) := by decide +kernel
theorem dX7_assign_19 : decode cX7_assign 19 = .ok (.invokevirtual 134, 3) := by decide +kernel
theorem dX7_assign_22 : decode cX7_assign 22 = .ok (.ifCond .ne 13, 3) := by decide +kernel
theorem dX7_assign_25 : decode cX7_assign 25 = .ok (.new 109, 3) := by decide +kernel
theorem dX7_assign_28 : decode cX7_assign 28 = .ok (.dup, 1) := by decide +kernel
theorem dX7_assign_29 : decode cX7_assign 29 = .ok (.ldc 137, 2) := by decide +kernel
theorem dX7_assign_31 : decode cX7_assign 31 = .ok (.invokespecial 113, 3) := by decide +kernel
theorem dX7_assign_34 : decode cX7_assign 34 = .ok (.athrow, 1) := by decide +kernel
theorem dX7_assign_35 : decode cX7_assign 35 = .ok (.iload_n 2, 1) := by decide +kernel
theorem dX7_assign_36 : decode cX7_assign 36 = .ok (.iload_n 3, 1) := by decide +kernel
theorem dX7_assign_37 : decode cX7_assign 37 = .ok (.iload 4, 2) := by decide +kernel
theorem dX7_assign_39 : decode cX7_assign 39 = .ok (.invokestatic 139, 3) := by decide +kernel
theorem dX7_assign_42 : decode cX7_assign 42 = .ok (.ifCond .ne 13, 3) := by decide +kernel
theorem dX7_assign_45 : decode cX7_assign 45 = .ok (.new 57, 3) := by decide +kernel
theorem dX7_assign_48 : decode cX7_assign 48 = .ok (.dup, 1) := by decide +kernel
theorem dX7_assign_49 : decode cX7_assign 49 = .ok (.ldc 142, 2) := by decide +kernel
theorem dX7_assign_51 : decode cX7_assign 51 = .ok (.invokespecial 61, 3) := by decide +kernel
theorem dX7_assign_54 : decode cX7_assign 54 = .ok (.athrow, 1) := by decide +kernel
theorem dX7_assign_55 : decode cX7_assign 55 = .ok (.aload_n 0, 1) := by decide +kernel
theorem dX7_assign_56 : decode cX7_assign 56 = .ok (.getfield 10, 3) := by decide +kernel
theorem dX7_assign_59 : decode cX7_assign 59 = .ok (.iload_n 1, 1) := by decide +kernel
theorem dX7_assign_60 : decode cX7_assign 60 = .ok (.iload_n 2, 1) := by decide +kernel
theorem dX7_assign_61 : decode cX7_assign 61 = .ok (.iload_n 3, 1) := by decide +kernel
theorem dX7_assign_62 : decode cX7_assign 62 = .ok (.iload 4, 2) := by decide +kernel
theorem dX7_assign_64 : decode cX7_assign 64 = .ok (.invokevirtual 144, 3) := by decide +kernel
theorem dX7_assign_67 : decode cX7_assign 67 = .ok (.ifCond .eq 13, 3) := by decide +kernel
theorem dX7_assign_70 : decode cX7_assign 70 = .ok (.new 74, 3) := by decide +kernel
theorem dX7_assign_73 : decode cX7_assign 73 = .ok (.dup, 1) := by decide +kernel
theorem dX7_assign_74 : decode cX7_assign 74 = .ok (.ldc 147, 2) := by decide +kernel
theorem dX7_assign_76 : decode cX7_assign 76 = .ok (.invokespecial 78, 3) := by decide +kernel
theorem dX7_assign_79 : decode cX7_assign 79 = .ok (.athrow, 1) := by decide +kernel
theorem dX7_assign_80 : decode cX7_assign 80 = .ok (.aload_n 0, 1) := by decide +kernel
theorem dX7_assign_81 : decode cX7_assign 81 = .ok (.getfield 22, 3) := by decide +kernel
theorem dX7_assign_84 : decode cX7_assign 84 = .ok (.aload_n 0, 1) := by decide +kernel
theorem dX7_assign_85 : decode cX7_assign 85 = .ok (.getfield 10, 3) := by decide +kernel
theorem dX7_assign_88 : decode cX7_assign 88 = .ok (.invokevirtual 79, 3) := by decide +kernel
theorem dX7_assign_91 : decode cX7_assign 91 = .ok (.aload_n 0, 1) := by decide +kernel
theorem dX7_assign_92 : decode cX7_assign 92 = .ok (.getfield 10, 3) := by decide +kernel
theorem dX7_assign_95 : decode cX7_assign 95 = .ok (.getfield 89, 3) := by decide +kernel
theorem dX7_assign_98 : decode cX7_assign 98 = .ok (.iload_n 1, 1) := by decide +kernel
theorem dX7_assign_99 : decode cX7_assign 99 = .ok (.iload_n 2, 1) := by decide +kernel
theorem dX7_assign_100 : decode cX7_assign 100 = .ok (.iload_n 3, 1) := by decide +kernel
theorem dX7_assign_101 : decode cX7_assign 101 = .ok (.iload 4, 2) := by decide +kernel
theorem dX7_assign_103 : decode cX7_assign 103 = .ok (.invokevirtual 149, 3) := by decide +kernel
theorem dX7_assign_106 : decode cX7_assign 106 = .ok (.aload_n 0, 1) := by decide +kernel
theorem dX7_assign_107 : decode cX7_assign 107 = .ok (.getfield 10, 3) := by decide +kernel
theorem dX7_assign_110 : decode cX7_assign 110 = .ok (.iload_n 1, 1) := by decide +kernel
theorem dX7_assign_111 : decode cX7_assign 111 = .ok (.iconst 2, 1) := by decide +kernel
theorem dX7_assign_112 : decode cX7_assign 112 = .ok (.invokevirtual 153, 3) := by decide +kernel
theorem dX7_assign_115 : decode cX7_assign 115 = .ok (.ireturn, 1) := by decide +kernel
theorem dX7_release_0 : decode cX7_release 0 = .ok (.aload_n 0, 1) := by decide +kernel
theorem dX7_release_1 : decode cX7_release 1 = .ok (.getfield 10, 3) := by decide +kernel
theorem dX7_release_4 : decode cX7_release 4 = .ok (.getfield 89, 3) := by decide +kernel
theorem dX7_release_7 : decode cX7_release 7 = .ok (.iload_n 1, 1) := by decide +kernel
theorem dX7_release_8 : decode cX7_release 8 = .ok (.invokevirtual 133, 3) := by decide +kernel
theorem dX7_release_11 : decode cX7_release 11 = .ok (.ifCond .ne 13, 3) := by decide +kernel
theorem dX7_release_14 : decode cX7_release 14 = .ok (.new 109, 3) := by decide +kernel
theorem dX7_release_17 : decode cX7_release 17 = .ok (.dup, 1) := by decide +kernel
theorem dX7_release_18 : decode cX7_release 18 = .ok (.ldc 157, 2) := by decide +kernel
theorem dX7_release_20 : decode cX7_release 20 = .ok (.invokespecial 113, 3) := by decide +kernel
theorem dX7_release_23 : decode cX7_release 23 = .ok (.athrow, 1) := by decide +kernel
theorem dX7_release_24 : decode cX7_release 24 = .ok (.aload_n 0, 1) := by decide +kernel
theorem dX7_release_25 : decode cX7_release 25 = .ok (.getfield 10, 3) := by decide +kernel
theorem dX7_release_28 : decode cX7_release 28 = .ok (.iload_n 1, 1) := by decide +kernel
theorem dX7_release_29 : decode cX7_release 29 = .ok (.invokevirtual 159, 3) := by decide +kernel
theorem dX7_release_32 : decode cX7_release 32 = .ok (.ifCond .ne 13, 3) := by decide +kernel
theorem dX7_release_35 : decode cX7_release 35 = .ok (.new 74, 3) := by decide +kernel
theorem dX7_release_38 : decode cX7_release 38 = .ok (.dup, 1) := by decide +kernel
theorem dX7_release_39 : decode cX7_release 39 = .ok (.ldc 162, 2) := by decide +kernel
theorem dX7_release_41 : decode cX7_release 41 = .ok (.invokespecial 78, 3) := by decide +kernel
theorem dX7_release_44 : decode cX7_release 44 = .ok (.athrow, 1) := by decide +kernel
theorem dX7_release_45 : decode cX7_release 45 = .ok (.aload_n 0, 1) := by decide +kernel
theorem dX7_release_46 : decode cX7_release 46 = .ok (.getfield 22, 3) := by decide +kernel
theorem dX7_release_49 : decode cX7_release 49 = .ok (.aload_n 0, 1) := by decide +kernel
theorem dX7_release_50 : decode cX7_release 50 = .ok (.getfield 10, 3) := by decide +kernel
theorem dX7_release_53 : decode cX7_release 53 = .ok (.invokevirtual 79, 3) := by decide +kernel
theorem dX7_release_56 : decode cX7_release 56 = .ok (.aload_n 0, 1) := by decide +kernel
theorem dX7_release_57 : decode cX7_release 57 = .ok (.getfield 10, 3) := by decide +kernel
theorem dX7_release_60 : decode cX7_release 60 = .ok (.getfield 89, 3) := by decide +kernel
theorem dX7_release_63 : decode cX7_release 63 = .ok (.getfield 164, 3) := by decide +kernel
theorem dX7_release_66 : decode cX7_release 66 = .ok (.iload_n 1, 1) := by decide +kernel
theorem dX7_release_67 : decode cX7_release 67 = .ok (.iaload, 1) := by decide +kernel
theorem dX7_release_68 : decode cX7_release 68 = .ok (.istore_n 2, 1) := by decide +kernel
theorem dX7_release_69 : decode cX7_release 69 = .ok (.aload_n 0, 1) := by decide +kernel
theorem dX7_release_70 : decode cX7_release 70 = .ok (.getfield 10, 3) := by decide +kernel
theorem dX7_release_73 : decode cX7_release 73 = .ok (.getfield 89, 3) := by decide +kernel
theorem dX7_release_76 : decode cX7_release 76 = .ok (.iload_n 1, 1) := by decide +kernel
theorem dX7_release_77 : decode cX7_release 77 = .ok (.iconst (-1), 1) := by decide +kernel
theorem dX7_release_78 : decode cX7_release 78 = .ok (.iconst (-1), 1) := by decide +kernel
theorem dX7_release_79 : decode cX7_release 79 = .ok (.iconst (-1), 1) := by decide +kernel
theorem dX7_release_80 : decode cX7_release 80 = .ok (.invokevirtual 149, 3) := by decide +kernel
theorem dX7_release_83 : decode cX7_release 83 = .ok (.iload_n 2, 1) := by decide +kernel
theorem dX7_release_84 : decode cX7_release 84 = .ok (.ireturn, 1) := by decide +kernel
theorem dX7_swap_0 : decode cX7_swap 0 = .ok (.aload_n 0, 1) := by decide +kernel
theorem dX7_swap_1 : decode cX7_swap 1 = .ok (.getfield 10, 3) := by decide +kernel
theorem dX7_swap_4 : decode cX7_swap 4 = .ok (.getfield 89, 3) := by decide +kernel
theorem dX7_swap_7 : decode cX7_swap 7 = .ok (.iload_n 1, 1) := by decide +kernel
theorem dX7_swap_8 : decode cX7_swap 8 = .ok (.invokevirtual 133, 3) := by decide +kernel
theorem dX7_swap_11 : decode cX7_swap 11 = .ok (.ifCond .eq 39, 3) := by decide +kernel
theorem dX7_swap_14 : decode cX7_swap 14 = .ok (.iload_n 2, 1) := by decide +kernel
theorem dX7_swap_15 : decode cX7_swap 15 = .ok (.iconst 0, 1) := by decide +kernel
theorem dX7_swap_16 : decode cX7_swap 16 = .ok (.aload_n 0, 1) := by decide +kernel
theorem dX7_swap_17 : decode cX7_swap 17 = .ok (.getfield 10, 3) := by decide +kernel
theorem dX7_swap_20 : decode cX7_swap 20 = .ok (.getfield 89, 3) := by decide +kernel
theorem dX7_swap_23 : decode cX7_swap 23 = .ok (.getfield 164, 3) := by decide +kernel
theorem dX7_swap_26 : decode cX7_swap 26 = .ok (.iload_n 1, 1) := by decide +kernel
theorem dX7_swap_27 : decode cX7_swap 27 = .ok (.iaload, 1) := by decide +kernel
theorem dX7_swap_28 : decode cX7_swap 28 = .ok (.iconst 1, 1) := by decide +kernel
theorem dX7_swap_29 : decode cX7_swap 29 = .ok (.isub, 1) := by decide +kernel
theorem dX7_swap_30 : decode cX7_swap 30 = .ok (.invokestatic 47, 3) := by decide +kernel
theorem dX7_swap_33 : decode cX7_swap 33 = .ok (.ifCond .eq 17, 3) := by decide +kernel
theorem dX7_swap_36 : decode cX7_swap 36 = .ok (.aload_n 0, 1) := by decide +kernel
theorem dX7_swap_37 : decode cX7_swap 37 = .ok (.getfield 10, 3) := by decide +kernel
theorem dX7_swap_40 : decode cX7_swap 40 = .ok (.getfield 64, 3) := by decide +kernel
theorem dX7_swap_43 : decode cX7_swap 43 = .ok (.iload_n 3, 1) := by decide +kernel
theorem dX7_swap_44 : decode cX7_swap 44 = .ok (.invokevirtual 105, 3) := by decide +kernel
theorem dX7_swap_47 : decode cX7_swap 47 = .ok (.ifCond .ne 13, 3) := by decide +kernel
theorem dX7_swap_50 : decode cX7_swap 50 = .ok (.new 109, 3) := by decide +kernel
theorem dX7_swap_53 : decode cX7_swap 53 = .ok (.dup, 1) := by decide +kernel
theorem dX7_swap_54 : decode cX7_swap 54 = .ok (.ldc 167, 2) := by decide +kernel
theorem dX7_swap_56 : decode cX7_swap 56 = .ok (.invokespecial 113, 3) := by decide +kernel
theorem dX7_swap_59 : decode cX7_swap 59 = .ok (.athrow, 1) := by decide +kernel
theorem dX7_swap_60 : decode cX7_swap 60 = .ok (.aload_n 0, 1) := by decide +kernel
theorem dX7_swap_61 : decode cX7_swap 61 = .ok (.getfield 10, 3) := by decide +kernel
theorem dX7_swap_64 : decode cX7_swap 64 = .ok (.getfield 89, 3) := by decide +kernel
theorem dX7_swap_67 : decode cX7_swap 67 = .ok (.iload_n 1, 1) := by decide +kernel
theorem dX7_swap_68 : decode cX7_swap 68 = .ok (.iload_n 3, 1) := by decide +kernel
theorem dX7_swap_69 : decode cX7_swap 69 = .ok (.invokevirtual 169, 3) := by decide +kernel
theorem dX7_swap_72 : decode cX7_swap 72 = .ok (.ifCond .eq 13, 3) := by decide +kernel
theorem dX7_swap_75 : decode cX7_swap 75 = .ok (.new 57, 3) := by decide +kernel
theorem dX7_swap_78 : decode cX7_swap 78 = .ok (.dup, 1) := by decide +kernel
theorem dX7_swap_79 : decode cX7_swap 79 = .ok (.ldc 173, 2) := by decide +kernel
theorem dX7_swap_81 : decode cX7_swap 81 = .ok (.invokespecial 61, 3) := by decide +kernel
theorem dX7_swap_84 : decode cX7_swap 84 = .ok (.athrow, 1) := by decide +kernel
theorem dX7_swap_85 : decode cX7_swap 85 = .ok (.iload_n 2, 1) := by decide +kernel
theorem dX7_swap_86 : decode cX7_swap 86 = .ok (.ifCond .ne 7, 3) := by decide +kernel
theorem dX7_swap_89 : decode cX7_swap 89 = .ok (.iload_n 3, 1) := by decide +kernel
theorem dX7_swap_90 : decode cX7_swap 90 = .ok (.goto 15, 3) := by decide +kernel
theorem dX7_swap_93 : decode cX7_swap 93 = .ok (.aload_n 0, 1) := by decide +kernel
theorem dX7_swap_94 : decode cX7_swap 94 = .ok (.getfield 10, 3) := by decide +kernel
theorem dX7_swap_97 : decode cX7_swap 97 = .ok (.getfield 89, 3) := by decide +kernel
theorem dX7_swap_100 : decode cX7_swap 100 = .ok (.iload_n 1, 1) := by decide +kernel
theorem dX7_swap_101 : decode cX7_swap 101 = .ok (.iconst 0, 1) := by decide +kernel
theorem dX7_swap_102 : decode cX7_swap 102 = .ok (.invokevirtual 175, 3) := by decide +kernel
theorem dX7_swap_105 : decode cX7_swap 105 = .ok (.istore 4, 2) := by decide +kernel
theorem dX7_swap_107 : decode cX7_swap 107 = .ok (.iload_n 2, 1) := by decide +kernel
theorem dX7_swap_108 : decode cX7_swap 108 = .ok (.iconst 1, 1) := by decide +kernel
theorem dX7_swap_109 : decode cX7_swap 109 = .ok (.if_icmp .ne 7, 3) := by decide +kernel
theorem dX7_swap_112 : decode cX7_swap 112 = .ok (.iload_n 3, 1) := by decide +kernel
theorem dX7_swap_113 : decode cX7_swap 113 = .ok (.goto 15, 3) := by decide +kernel
theorem dX7_swap_116 : decode cX7_swap 116 = .ok (.aload_n 0, 1) := by decide +kernel
theorem dX7_swap_117 : decode cX7_swap 117 = .ok (.getfield 10, 3) := by decide +kernel
theorem dX7_swap_120 : decode cX7_swap 120 = .ok (.getfield 89, 3) := by decide +kernel
theorem dX7_swap_123 : decode cX7_swap 123 = .ok (.iload_n 1, 1) := by decide +kernel
theorem dX7_swap_124 : decode cX7_swap 124 = .ok (.iconst 1, 1) := by decide +kernel
theorem dX7_swap_125 : decode cX7_swap 125 = .ok (.invokevirtual 175, 3) := by decide +kernel
theorem dX7_swap_128 : decode cX7_swap 128 = .ok (.istore 5, 2) := by decide +kernel
theorem dX7_swap_130 : decode cX7_swap 130 = .ok (.iload_n 2, 1) := by decide +kernel
theorem dX7_swap_131 : decode cX7_swap 131 = .ok (.iconst 2, 1) := by decide +kernel
theorem dX7_swap_132 : decode cX7_swap 132 = .ok (.if_icmp .ne 7, 3) := by decide +kernel
theorem dX7_swap_135 : decode cX7_swap 135 = .ok (.iload_n 3, 1) := by decide +kernel
theorem dX7_swap_136 : decode cX7_swap 136 = .ok (.goto 15, 3) := by decide +kernel
theorem dX7_swap_139 : decode cX7_swap 139 = .ok (.aload_n 0, 1) := by decide +kernel
theorem dX7_swap_140 : decode cX7_swap 140 = .ok (.getfield 10, 3) := by decide +kernel
theorem dX7_swap_143 : decode cX7_swap 143 = .ok (.getfield 89, 3) := by decide +kernel
theorem dX7_swap_146 : decode cX7_swap 146 = .ok (.iload_n 1, 1) := by decide +kernel
theorem dX7_swap_147 : decode cX7_swap 147 = .ok (.iconst 2, 1) := by decide +kernel
theorem dX7_swap_148 : decode cX7_swap 148 = .ok (.invokevirtual 175, 3) := by decide +kernel
theorem dX7_swap_151 : decode cX7_swap 151 = .ok (.istore 6, 2) := by decide +kernel
theorem dX7_swap_153 : decode cX7_swap 153 = .ok (.aload_n 0, 1) := by decide +kernel
theorem dX7_swap_154 : decode cX7_swap 154 = .ok (.getfield 10, 3) := by decide +kernel
theorem dX7_swap_157 : decode cX7_swap 157 = .ok (.iload_n 1, 1) := by decide +kernel
theorem dX7_swap_158 : decode cX7_swap 158 = .ok (.iload 4, 2) := by decide +kernel
theorem dX7_swap_160 : decode cX7_swap 160 = .ok (.iload 5, 2) := by decide +kernel
theorem dX7_swap_162 : decode cX7_swap 162 = .ok (.iload 6, 2) := by decide +kernel
theorem dX7_swap_164 : decode cX7_swap 164 = .ok (.invokevirtual 144, 3) := by decide +kernel
theorem dX7_swap_167 : decode cX7_swap 167 = .ok (.ifCond .eq 13, 3) := by decide +kernel
theorem dX7_swap_170 : decode cX7_swap 170 = .ok (.new 74, 3) := by decide +kernel
theorem dX7_swap_173 : decode cX7_swap 173 = .ok (.dup, 1) := by decide +kernel
theorem dX7_swap_174 : decode cX7_swap 174 = .ok (.ldc 178, 2) := by decide +kernel
theorem dX7_swap_176 : decode cX7_swap 176 = .ok (.invokespecial 78, 3) := by decide +kernel
theorem dX7_swap_179 : decode cX7_swap 179 = .ok (.athrow, 1) := by decide +kernel
theorem dX7_swap_180 : decode cX7_swap 180 = .ok (.aload_n 0, 1) := by decide +kernel
theorem dX7_swap_181 : decode cX7_swap 181 = .ok (.getfield 22, 3) := by decide +kernel
theorem dX7_swap_184 : decode cX7_swap 184 = .ok (.aload_n 0, 1) := by decide +kernel
theorem dX7_swap_185 : decode cX7_swap 185 = .ok (.getfield 10, 3) := by decide +kernel
theorem dX7_swap_188 : decode cX7_swap 188 = .ok (.invokevirtual 79, 3) := by decide +kernel
theorem dX7_swap_191 : decode cX7_swap 191 = .ok (.aload_n 0, 1) := by decide +kernel
theorem dX7_swap_192 : decode cX7_swap 192 = .ok (.getfield 10, 3) := by decide +kernel
theorem dX7_swap_195 : decode cX7_swap 195 = .ok (.getfield 89, 3) := by decide +kernel
theorem dX7_swap_198 : decode cX7_swap 198 = .ok (.iload_n 1, 1) := by decide +kernel
theorem dX7_swap_199 : decode cX7_swap 199 = .ok (.iload_n 2, 1) := by decide +kernel
theorem dX7_swap_200 : decode cX7_swap 200 = .ok (.invokevirtual 175, 3) := by decide +kernel
theorem dX7_swap_203 : decode cX7_swap 203 = .ok (.istore 7, 2) := by decide +kernel
theorem dX7_swap_205 : decode cX7_swap 205 = .ok (.aload_n 0, 1) := by decide +kernel
theorem dX7_swap_206 : decode cX7_swap 206 = .ok (.getfield 10, 3) := by decide +kernel
theorem dX7_swap_209 : decode cX7_swap 209 = .ok (.getfield 89, 3) := by decide +kernel
theorem dX7_swap_212 : decode cX7_swap 212 = .ok (.iload_n 1, 1) := by decide +kernel
theorem dX7_swap_213 : decode cX7_swap 213 = .ok (.iload 4, 2) := by decide +kernel
theorem dX7_swap_215 : decode cX7_swap 215 = .ok (.iload 5, 2) := by decide +kernel
theorem dX7_swap_217 : decode cX7_swap 217 = .ok (.iload 6, 2) := by decide +kernel
theorem dX7_swap_219 : decode cX7_swap 219 = .ok (.invokevirtual 149, 3) := by decide +kernel
theorem dX7_swap_222 : decode cX7_swap 222 = .ok (.iload 7, 2) := by decide +kernel
theorem dX7_swap_224 : decode cX7_swap 224 = .ok (.ireturn, 1) := by decide +kernel
theorem dX7_vacate_0 : decode cX7_vacate 0 = .ok (.aload_n 0, 1) := by decide +kernel
theorem dX7_vacate_1 : decode cX7_vacate 1 = .ok (.getfield 10, 3) := by decide +kernel
theorem dX7_vacate_4 : decode cX7_vacate 4 = .ok (.getfield 89, 3) := by decide +kernel
theorem dX7_vacate_7 : decode cX7_vacate 7 = .ok (.iload_n 1, 1) := by decide +kernel
theorem dX7_vacate_8 : decode cX7_vacate 8 = .ok (.invokevirtual 133, 3) := by decide +kernel
theorem dX7_vacate_11 : decode cX7_vacate 11 = .ok (.ifCond .ne 13, 3) := by decide +kernel
theorem dX7_vacate_14 : decode cX7_vacate 14 = .ok (.new 109, 3) := by decide +kernel
theorem dX7_vacate_17 : decode cX7_vacate 17 = .ok (.dup, 1) := by decide +kernel
theorem dX7_vacate_18 : decode cX7_vacate 18 = .ok (.ldc 157, 2) := by decide +kernel
theorem dX7_vacate_20 : decode cX7_vacate 20 = .ok (.invokespecial 113, 3) := by decide +kernel
theorem dX7_vacate_23 : decode cX7_vacate 23 = .ok (.athrow, 1) := by decide +kernel
theorem dX7_vacate_24 : decode cX7_vacate 24 = .ok (.aload_n 0, 1) := by decide +kernel
theorem dX7_vacate_25 : decode cX7_vacate 25 = .ok (.getfield 10, 3) := by decide +kernel
theorem dX7_vacate_28 : decode cX7_vacate 28 = .ok (.iload_n 1, 1) := by decide +kernel
theorem dX7_vacate_29 : decode cX7_vacate 29 = .ok (.invokevirtual 159, 3) := by decide +kernel
theorem dX7_vacate_32 : decode cX7_vacate 32 = .ok (.ifCond .ne 13, 3) := by decide +kernel
theorem dX7_vacate_35 : decode cX7_vacate 35 = .ok (.new 74, 3) := by decide +kernel
theorem dX7_vacate_38 : decode cX7_vacate 38 = .ok (.dup, 1) := by decide +kernel
theorem dX7_vacate_39 : decode cX7_vacate 39 = .ok (.ldc 162, 2) := by decide +kernel
theorem dX7_vacate_41 : decode cX7_vacate 41 = .ok (.invokespecial 78, 3) := by decide +kernel
theorem dX7_vacate_44 : decode cX7_vacate 44 = .ok (.athrow, 1) := by decide +kernel
theorem dX7_vacate_45 : decode cX7_vacate 45 = .ok (.aload_n 0, 1) := by decide +kernel
theorem dX7_vacate_46 : decode cX7_vacate 46 = .ok (.getfield 22, 3) := by decide +kernel
theorem dX7_vacate_49 : decode cX7_vacate 49 = .ok (.aload_n 0, 1) := by decide +kernel
theorem dX7_vacate_50 : decode cX7_vacate 50 = .ok (.getfield 10, 3) := by decide +kernel
theorem dX7_vacate_53 : decode cX7_vacate 53 = .ok (.invokevirtual 79, 3) := by decide +kernel
theorem dX7_vacate_56 : decode cX7_vacate 56 = .ok (.aload_n 0, 1) := by decide +kernel
theorem dX7_vacate_57 : decode cX7_vacate 57 = .ok (.getfield 10, 3) := by decide +kernel
theorem dX7_vacate_60 : decode cX7_vacate 60 = .ok (.iload_n 1, 1) := by decide +kernel
theorem dX7_vacate_61 : decode cX7_vacate 61 = .ok (.iconst 3, 1) := by decide +kernel
theorem dX7_vacate_62 : decode cX7_vacate 62 = .ok (.aload_n 0, 1) := by decide +kernel
theorem dX7_vacate_63 : decode cX7_vacate 63 = .ok (.getfield 10, 3) := by decide +kernel
theorem dX7_vacate_66 : decode cX7_vacate 66 = .ok (.aload_n 0, 1) := by decide +kernel
theorem dX7_vacate_67 : decode cX7_vacate 67 = .ok (.getfield 10, 3) := by decide +kernel
theorem dX7_vacate_70 : decode cX7_vacate 70 = .ok (.getfield 89, 3) := by decide +kernel
theorem dX7_vacate_73 : decode cX7_vacate 73 = .ok (.getfield 180, 3) := by decide +kernel
theorem dX7_vacate_76 : decode cX7_vacate 76 = .ok (.iload_n 1, 1) := by decide +kernel
theorem dX7_vacate_77 : decode cX7_vacate 77 = .ok (.iaload, 1) := by decide +kernel
theorem dX7_vacate_78 : decode cX7_vacate 78 = .ok (.aload_n 0, 1) := by decide +kernel
theorem dX7_vacate_79 : decode cX7_vacate 79 = .ok (.getfield 10, 3) := by decide +kernel
theorem dX7_vacate_82 : decode cX7_vacate 82 = .ok (.getfield 98, 3) := by decide +kernel
theorem dX7_vacate_85 : decode cX7_vacate 85 = .ok (.isub, 1) := by decide +kernel
theorem dX7_vacate_86 : decode cX7_vacate 86 = .ok (.invokevirtual 183, 3) := by decide +kernel
theorem dX7_vacate_89 : decode cX7_vacate 89 = .ok (.invokevirtual 186, 3) := by decide +kernel
theorem dX7_vacate_92 : decode cX7_vacate 92 = .ok (.ireturn, 1) := by decide +kernel
theorem dX7_pass_0 : decode cX7_pass 0 = .ok (.iload_n 1, 1) := by decide +kernel
theorem dX7_pass_1 : decode cX7_pass 1 = .ok (.iconst 1, 1) := by decide +kernel
theorem dX7_pass_2 : decode cX7_pass 2 = .ok (.sipush 500, 3) := by decide +kernel
theorem dX7_pass_5 : decode cX7_pass 5 = .ok (.invokestatic 47, 3) := by decide +kernel
theorem dX7_pass_8 : decode cX7_pass 8 = .ok (.ifCond .ne 13, 3) := by decide +kernel
theorem dX7_pass_11 : decode cX7_pass 11 = .ok (.new 57, 3) := by decide +kernel
theorem dX7_pass_14 : decode cX7_pass 14 = .ok (.dup, 1) := by decide +kernel
theorem dX7_pass_15 : decode cX7_pass 15 = .ok (.ldc 189, 2) := by decide +kernel
theorem dX7_pass_17 : decode cX7_pass 17 = .ok (.invokespecial 61, 3) := by decide +kernel
theorem dX7_pass_20 : decode cX7_pass 20 = .ok (.athrow, 1) := by decide +kernel
theorem dX7_pass_21 : decode cX7_pass 21 = .ok (.aload_n 0, 1) := by decide +kernel
theorem dX7_pass_22 : decode cX7_pass 22 = .ok (.getfield 10, 3) := by decide +kernel
theorem dX7_pass_25 : decode cX7_pass 25 = .ok (.getfield 98, 3) := by decide +kernel
theorem dX7_pass_28 : decode cX7_pass 28 = .ok (.iload_n 1, 1) := by decide +kernel
theorem dX7_pass_29 : decode cX7_pass 29 = .ok (.iadd, 1) := by decide +kernel
theorem dX7_pass_30 : decode cX7_pass 30 = .ok (.sipush 20000, 3) := by decide +kernel
theorem dX7_pass_33 : decode cX7_pass 33 = .ok (.if_icmp .le 13, 3) := by decide +kernel
theorem dX7_pass_36 : decode cX7_pass 36 = .ok (.new 74, 3) := by decide +kernel
theorem dX7_pass_39 : decode cX7_pass 39 = .ok (.dup, 1) := by decide +kernel
theorem dX7_pass_40 : decode cX7_pass 40 = .ok (.ldc 191, 2) := by decide +kernel
theorem dX7_pass_42 : decode cX7_pass 42 = .ok (.invokespecial 78, 3) := by decide +kernel
theorem dX7_pass_45 : decode cX7_pass 45 = .ok (.athrow, 1) := by decide +kernel
theorem dX7_pass_46 : decode cX7_pass 46 = .ok (.aload_n 0, 1) := by decide +kernel
theorem dX7_pass_47 : decode cX7_pass 47 = .ok (.getfield 22, 3) := by decide +kernel
theorem dX7_pass_50 : decode cX7_pass 50 = .ok (.aload_n 0, 1) := by decide +kernel
theorem dX7_pass_51 : decode cX7_pass 51 = .ok (.getfield 10, 3) := by decide +kernel
theorem dX7_pass_54 : decode cX7_pass 54 = .ok (.invokevirtual 79, 3) := by decide +kernel
theorem dX7_pass_57 : decode cX7_pass 57 = .ok (.iconst 0, 1) := by decide +kernel
theorem dX7_pass_58 : decode cX7_pass 58 = .ok (.istore_n 2, 1) := by decide +kernel
theorem dX7_pass_59 : decode cX7_pass 59 = .ok (.iconst 0, 1) := by decide +kernel
theorem dX7_pass_60 : decode cX7_pass 60 = .ok (.istore_n 3, 1) := by decide +kernel
theorem dX7_pass_61 : decode cX7_pass 61 = .ok (.iload_n 3, 1) := by decide +kernel
theorem dX7_pass_62 : decode cX7_pass 62 = .ok (.iload_n 1, 1) := by decide +kernel
theorem dX7_pass_63 : decode cX7_pass 63 = .ok (.if_icmp .ge 19, 3) := by decide +kernel
theorem dX7_pass_66 : decode cX7_pass 66 = .ok (.iload_n 2, 1) := by decide +kernel
theorem dX7_pass_67 : decode cX7_pass 67 = .ok (.aload_n 0, 1) := by decide +kernel
theorem dX7_pass_68 : decode cX7_pass 68 = .ok (.getfield 10, 3) := by decide +kernel
theorem dX7_pass_71 : decode cX7_pass 71 = .ok (.invokevirtual 193, 3) := by decide +kernel
theorem dX7_pass_74 : decode cX7_pass 74 = .ok (.iadd, 1) := by decide +kernel
theorem dX7_pass_75 : decode cX7_pass 75 = .ok (.istore_n 2, 1) := by decide +kernel
theorem dX7_pass_76 : decode cX7_pass 76 = .ok (.iinc 3 1, 3) := by decide +kernel
theorem dX7_pass_79 : decode cX7_pass 79 = .ok (.goto (-18), 3) := by decide +kernel
theorem dX7_pass_82 : decode cX7_pass 82 = .ok (.iload_n 2, 1) := by decide +kernel
theorem dX7_pass_83 : decode cX7_pass 83 = .ok (.ireturn, 1) := by decide +kernel
theorem dX7_interpreter_0 : decode cX7_interpreter 0 = .ok (.aload_n 0, 1) := by decide +kernel
theorem dX7_interpreter_1 : decode cX7_interpreter 1 = .ok (.getfield 10, 3) := by decide +kernel
theorem dX7_interpreter_4 : decode cX7_interpreter 4 = .ok (.getfield 64, 3) := by decide +kernel
theorem dX7_interpreter_7 : decode cX7_interpreter 7 = .ok (.iload_n 1, 1) := by decide +kernel
theorem dX7_interpreter_8 : decode cX7_interpreter 8 = .ok (.invokevirtual 105, 3) := by decide +kernel
theorem dX7_interpreter_11 : decode cX7_interpreter 11 = .ok (.ifCond .ne 13, 3) := by decide +kernel
theorem dX7_interpreter_14 : decode cX7_interpreter 14 = .ok (.new 109, 3) := by decide +kernel
theorem dX7_interpreter_17 : decode cX7_interpreter 17 = .ok (.dup, 1) := by decide +kernel
theorem dX7_interpreter_18 : decode cX7_interpreter 18 = .ok (.ldc 111, 2) := by decide +kernel
theorem dX7_interpreter_20 : decode cX7_interpreter 20 = .ok (.invokespecial 113, 3) := by decide +kernel
theorem dX7_interpreter_23 : decode cX7_interpreter 23 = .ok (.athrow, 1) := by decide +kernel
theorem dX7_interpreter_24 : decode cX7_interpreter 24 = .ok (.iload_n 2, 1) := by decide +kernel
theorem dX7_interpreter_25 : decode cX7_interpreter 25 = .ok (.iconst 0, 1) := by decide +kernel
theorem dX7_interpreter_26 : decode cX7_interpreter 26 = .ok (.bipush 7, 2) := by decide +kernel
theorem dX7_interpreter_28 : decode cX7_interpreter 28 = .ok (.invokestatic 47, 3) := by decide +kernel
theorem dX7_interpreter_31 : decode cX7_interpreter 31 = .ok (.ifCond .ne 13, 3) := by decide +kernel
theorem dX7_interpreter_34 : decode cX7_interpreter 34 = .ok (.new 57, 3) := by decide +kernel
theorem dX7_interpreter_37 : decode cX7_interpreter 37 = .ok (.dup, 1) := by decide +kernel
theorem dX7_interpreter_38 : decode cX7_interpreter 38 = .ok (.ldc 233, 2) := by decide +kernel
theorem dX7_interpreter_40 : decode cX7_interpreter 40 = .ok (.invokespecial 61, 3) := by decide +kernel
theorem dX7_interpreter_43 : decode cX7_interpreter 43 = .ok (.athrow, 1) := by decide +kernel
theorem dX7_interpreter_44 : decode cX7_interpreter 44 = .ok (.aload_n 0, 1) := by decide +kernel
theorem dX7_interpreter_45 : decode cX7_interpreter 45 = .ok (.getfield 10, 3) := by decide +kernel
theorem dX7_interpreter_48 : decode cX7_interpreter 48 = .ok (.iload_n 1, 1) := by decide +kernel
theorem dX7_interpreter_49 : decode cX7_interpreter 49 = .ok (.iload_n 2, 1) := by decide +kernel
theorem dX7_interpreter_50 : decode cX7_interpreter 50 = .ok (.invokevirtual 235, 3) := by decide +kernel
theorem dX7_interpreter_53 : decode cX7_interpreter 53 = .ok (.ireturn, 1) := by decide +kernel
theorem dX7_hearing_0 : decode cX7_hearing 0 = .ok (.aload_n 0, 1) := by decide +kernel
theorem dX7_hearing_1 : decode cX7_hearing 1 = .ok (.getfield 10, 3) := by decide +kernel
theorem dX7_hearing_4 : decode cX7_hearing 4 = .ok (.getfield 89, 3) := by decide +kernel
theorem dX7_hearing_7 : decode cX7_hearing 7 = .ok (.iload_n 1, 1) := by decide +kernel
theorem dX7_hearing_8 : decode cX7_hearing 8 = .ok (.invokevirtual 133, 3) := by decide +kernel
theorem dX7_hearing_11 : decode cX7_hearing 11 = .ok (.ifCond .ne 13, 3) := by decide +kernel
theorem dX7_hearing_14 : decode cX7_hearing 14 = .ok (.new 109, 3) := by decide +kernel
theorem dX7_hearing_17 : decode cX7_hearing 17 = .ok (.dup, 1) := by decide +kernel
theorem dX7_hearing_18 : decode cX7_hearing 18 = .ok (.ldc 157, 2) := by decide +kernel
theorem dX7_hearing_20 : decode cX7_hearing 20 = .ok (.invokespecial 113, 3) := by decide +kernel
theorem dX7_hearing_23 : decode cX7_hearing 23 = .ok (.athrow, 1) := by decide +kernel
theorem dX7_hearing_24 : decode cX7_hearing 24 = .ok (.iload_n 2, 1) := by decide +kernel
theorem dX7_hearing_25 : decode cX7_hearing 25 = .ok (.iconst 0, 1) := by decide +kernel
theorem dX7_hearing_26 : decode cX7_hearing 26 = .ok (.bipush 11, 2) := by decide +kernel
theorem dX7_hearing_28 : decode cX7_hearing 28 = .ok (.invokestatic 47, 3) := by decide +kernel
theorem dX7_hearing_31 : decode cX7_hearing 31 = .ok (.ifCond .ne 13, 3) := by decide +kernel
theorem dX7_hearing_34 : decode cX7_hearing 34 = .ok (.new 57, 3) := by decide +kernel
theorem dX7_hearing_37 : decode cX7_hearing 37 = .ok (.dup, 1) := by decide +kernel
theorem dX7_hearing_38 : decode cX7_hearing 38 = .ok (.ldc 238, 2) := by decide +kernel
theorem dX7_hearing_40 : decode cX7_hearing 40 = .ok (.invokespecial 61, 3) := by decide +kernel
theorem dX7_hearing_43 : decode cX7_hearing 43 = .ok (.athrow, 1) := by decide +kernel
theorem dX7_hearing_44 : decode cX7_hearing 44 = .ok (.aload_n 0, 1) := by decide +kernel
theorem dX7_hearing_45 : decode cX7_hearing 45 = .ok (.getfield 10, 3) := by decide +kernel
theorem dX7_hearing_48 : decode cX7_hearing 48 = .ok (.iload_n 1, 1) := by decide +kernel
theorem dX7_hearing_49 : decode cX7_hearing 49 = .ok (.iload_n 2, 1) := by decide +kernel
theorem dX7_hearing_50 : decode cX7_hearing 50 = .ok (.invokevirtual 240, 3) := by decide +kernel
theorem dX7_hearing_53 : decode cX7_hearing 53 = .ok (.ireturn, 1) := by decide +kernel
theorem dX7_count_0 : decode cX7_count 0 = .ok (.iload_n 1, 1) := by decide +kernel
theorem dX7_count_1 : decode cX7_count 1 = .ok (.iconst 0, 1) := by decide +kernel
theorem dX7_count_2 : decode cX7_count 2 = .ok (.bipush 12, 2) := by decide +kernel
theorem dX7_count_4 : decode cX7_count 4 = .ok (.invokestatic 47, 3) := by decide +kernel
theorem dX7_count_7 : decode cX7_count 7 = .ok (.ifCond .ne 13, 3) := by decide +kernel
theorem dX7_count_10 : decode cX7_count 10 = .ok (.new 57, 3) := by decide +kernel
theorem dX7_count_13 : decode cX7_count 13 = .ok (.dup, 1) := by decide +kernel
theorem dX7_count_14 : decode cX7_count 14 = .ok (.ldc 243, 2) := by decide +kernel
theorem dX7_count_16 : decode cX7_count 16 = .ok (.invokespecial 61, 3) := by decide +kernel
theorem dX7_count_19 : decode cX7_count 19 = .ok (.athrow, 1) := by decide +kernel
theorem dX7_count_20 : decode cX7_count 20 = .ok (.iload_n 1, 1) := by decide +kernel
theorem dX7_count_21 : decode cX7_count 21 = .ok (.bipush 12, 2) := by decide +kernel
theorem dX7_count_23 : decode cX7_count 23 = .ok (.if_icmp .ne 13, 3) := by decide +kernel
theorem dX7_count_26 : decode cX7_count 26 = .ok (.aload_n 0, 1) := by decide +kernel
theorem dX7_count_27 : decode cX7_count 27 = .ok (.getfield 22, 3) := by decide +kernel
theorem dX7_count_30 : decode cX7_count 30 = .ok (.getfield 227, 3) := by decide +kernel
theorem dX7_count_33 : decode cX7_count 33 = .ok (.goto 11, 3) := by decide +kernel
theorem dX7_count_36 : decode cX7_count 36 = .ok (.aload_n 0, 1) := by decide +kernel
theorem dX7_count_37 : decode cX7_count 37 = .ok (.getfield 10, 3) := by decide +kernel
theorem dX7_count_40 : decode cX7_count 40 = .ok (.iload_n 1, 1) := by decide +kernel
theorem dX7_count_41 : decode cX7_count 41 = .ok (.invokevirtual 245, 3) := by decide +kernel
theorem dX7_count_44 : decode cX7_count 44 = .ok (.ireturn, 1) := by decide +kernel
theorem dX7_whyNot_0 : decode cX7_whyNot 0 = .ok (.aload_n 0, 1) := by decide +kernel
theorem dX7_whyNot_1 : decode cX7_whyNot 1 = .ok (.getfield 10, 3) := by decide +kernel
theorem dX7_whyNot_4 : decode cX7_whyNot 4 = .ok (.getfield 89, 3) := by decide +kernel
theorem dX7_whyNot_7 : decode cX7_whyNot 7 = .ok (.iload_n 1, 1) := by decide +kernel
theorem dX7_whyNot_8 : decode cX7_whyNot 8 = .ok (.invokevirtual 133, 3) := by decide +kernel
theorem dX7_whyNot_11 : decode cX7_whyNot 11 = .ok (.ifCond .eq 14, 3) := by decide +kernel
theorem dX7_whyNot_14 : decode cX7_whyNot 14 = .ok (.aload_n 0, 1) := by decide +kernel
theorem dX7_whyNot_15 : decode cX7_whyNot 15 = .ok (.iload_n 2, 1) := by decide +kernel
theorem dX7_whyNot_16 : decode cX7_whyNot 16 = .ok (.iload_n 3, 1) := by decide +kernel
theorem dX7_whyNot_17 : decode cX7_whyNot 17 = .ok (.iload 4, 2) := by decide +kernel
theorem dX7_whyNot_19 : decode cX7_whyNot 19 = .ok (.invokevirtual 134, 3) := by decide +kernel
theorem dX7_whyNot_22 : decode cX7_whyNot 22 = .ok (.ifCond .ne 13, 3) := by decide +kernel
theorem dX7_whyNot_25 : decode cX7_whyNot 25 = .ok (.new 109, 3) := by decide +kernel
theorem dX7_whyNot_28 : decode cX7_whyNot 28 = .ok (.dup, 1) := by decide +kernel
theorem dX7_whyNot_29 : decode cX7_whyNot 29 = .ok (.ldc 137, 2) := by decide +kernel
theorem dX7_whyNot_31 : decode cX7_whyNot 31 = .ok (.invokespecial 113, 3) := by decide +kernel
theorem dX7_whyNot_34 : decode cX7_whyNot 34 = .ok (.athrow, 1) := by decide +kernel
theorem dX7_whyNot_35 : decode cX7_whyNot 35 = .ok (.iload_n 2, 1) := by decide +kernel
theorem dX7_whyNot_36 : decode cX7_whyNot 36 = .ok (.iload_n 3, 1) := by decide +kernel
theorem dX7_whyNot_37 : decode cX7_whyNot 37 = .ok (.iload 4, 2) := by decide +kernel
theorem dX7_whyNot_39 : decode cX7_whyNot 39 = .ok (.invokestatic 139, 3) := by decide +kernel
theorem dX7_whyNot_42 : decode cX7_whyNot 42 = .ok (.ifCond .ne 13, 3) := by decide +kernel
theorem dX7_whyNot_45 : decode cX7_whyNot 45 = .ok (.new 57, 3) := by decide +kernel
theorem dX7_whyNot_48 : decode cX7_whyNot 48 = .ok (.dup, 1) := by decide +kernel
theorem dX7_whyNot_49 : decode cX7_whyNot 49 = .ok (.ldc 142, 2) := by decide +kernel
theorem dX7_whyNot_51 : decode cX7_whyNot 51 = .ok (.invokespecial 61, 3) := by decide +kernel
theorem dX7_whyNot_54 : decode cX7_whyNot 54 = .ok (.athrow, 1) := by decide +kernel
theorem dX7_whyNot_55 : decode cX7_whyNot 55 = .ok (.aload_n 0, 1) := by decide +kernel
theorem dX7_whyNot_56 : decode cX7_whyNot 56 = .ok (.getfield 10, 3) := by decide +kernel
theorem dX7_whyNot_59 : decode cX7_whyNot 59 = .ok (.iload_n 1, 1) := by decide +kernel
theorem dX7_whyNot_60 : decode cX7_whyNot 60 = .ok (.iload_n 2, 1) := by decide +kernel
theorem dX7_whyNot_61 : decode cX7_whyNot 61 = .ok (.iload_n 3, 1) := by decide +kernel
theorem dX7_whyNot_62 : decode cX7_whyNot 62 = .ok (.iload 4, 2) := by decide +kernel
theorem dX7_whyNot_64 : decode cX7_whyNot 64 = .ok (.invokevirtual 144, 3) := by decide +kernel
theorem dX7_whyNot_67 : decode cX7_whyNot 67 = .ok (.ireturn, 1) := by decide +kernel
theorem dX7_within_0 : decode cX7_within 0 = .ok (.iload_n 0, 1) := by decide +kernel
theorem dX7_within_1 : decode cX7_within 1 = .ok (.iload_n 1, 1) := by decide +kernel
theorem dX7_within_2 : decode cX7_within 2 = .ok (.if_icmp .lt 12, 3) := by decide +kernel
theorem dX7_within_5 : decode cX7_within 5 = .ok (.iload_n 0, 1) := by decide +kernel
theorem dX7_within_6 : decode cX7_within 6 = .ok (.iload_n 2, 1) := by decide +kernel
theorem dX7_within_7 : decode cX7_within 7 = .ok (.if_icmp .gt 7, 3) := by decide +kernel
theorem dX7_within_10 : decode cX7_within 10 = .ok (.iconst 1, 1) := by decide +kernel
theorem dX7_within_11 : decode cX7_within 11 = .ok (.goto 4, 3) := by decide +kernel
theorem dX7_within_14 : decode cX7_within 14 = .ok (.iconst 0, 1) := by decide +kernel
theorem dX7_within_15 : decode cX7_within 15 = .ok (.ireturn, 1) := by decide +kernel
theorem dX7_isSetting_0 : decode cX7_isSetting 0 = .ok (.iload_n 0, 1) := by decide +kernel
theorem dX7_isSetting_1 : decode cX7_isSetting 1 = .ok (.ifCond .lt 15, 3) := by decide +kernel
theorem dX7_isSetting_4 : decode cX7_isSetting 4 = .ok (.iload_n 0, 1) := by decide +kernel
theorem dX7_isSetting_5 : decode cX7_isSetting 5 = .ok (.getstatic 323, 3) := by decide +kernel
theorem dX7_isSetting_8 : decode cX7_isSetting 8 = .ok (.arraylength, 1) := by decide +kernel
theorem dX7_isSetting_9 : decode cX7_isSetting 9 = .ok (.if_icmp .ge 7, 3) := by decide +kernel
theorem dX7_isSetting_12 : decode cX7_isSetting 12 = .ok (.iconst 1, 1) := by decide +kernel
theorem dX7_isSetting_13 : decode cX7_isSetting 13 = .ok (.goto 4, 3) := by decide +kernel
theorem dX7_isSetting_16 : decode cX7_isSetting 16 = .ok (.iconst 0, 1) := by decide +kernel
theorem dX7_isSetting_17 : decode cX7_isSetting 17 = .ok (.ireturn, 1) := by decide +kernel
theorem dX7_nameInterpreters_0 : decode cX7_nameInterpreters 0 = .ok (.aload_n 0, 1) := by decide +kernel
theorem dX7_nameInterpreters_1 : decode cX7_nameInterpreters 1 = .ok (.getfield 10, 3) := by decide +kernel
theorem dX7_nameInterpreters_4 : decode cX7_nameInterpreters 4 = .ok (.getfield 64, 3) := by decide +kernel
theorem dX7_nameInterpreters_7 : decode cX7_nameInterpreters 7 = .ok (.iload_n 1, 1) := by decide +kernel
theorem dX7_nameInterpreters_8 : decode cX7_nameInterpreters 8 = .ok (.invokevirtual 105, 3) := by decide +kernel
theorem dX7_nameInterpreters_11 : decode cX7_nameInterpreters 11 = .ok (.ifCond .eq 45, 3) := by decide +kernel
theorem dX7_nameInterpreters_14 : decode cX7_nameInterpreters 14 = .ok (.iload_n 2, 1) := by decide +kernel
theorem dX7_nameInterpreters_15 : decode cX7_nameInterpreters 15 = .ok (.iconst (-1), 1) := by decide +kernel
theorem dX7_nameInterpreters_16 : decode cX7_nameInterpreters 16 = .ok (.if_icmp .eq 17, 3) := by decide +kernel
theorem dX7_nameInterpreters_19 : decode cX7_nameInterpreters 19 = .ok (.aload_n 0, 1) := by decide +kernel
theorem dX7_nameInterpreters_20 : decode cX7_nameInterpreters 20 = .ok (.getfield 10, 3) := by decide +kernel
theorem dX7_nameInterpreters_23 : decode cX7_nameInterpreters 23 = .ok (.getfield 64, 3) := by decide +kernel
theorem dX7_nameInterpreters_26 : decode cX7_nameInterpreters 26 = .ok (.iload_n 2, 1) := by decide +kernel
theorem dX7_nameInterpreters_27 : decode cX7_nameInterpreters 27 = .ok (.invokevirtual 105, 3) := by decide +kernel
theorem dX7_nameInterpreters_30 : decode cX7_nameInterpreters 30 = .ok (.ifCond .eq 26, 3) := by decide +kernel
theorem dX7_nameInterpreters_33 : decode cX7_nameInterpreters 33 = .ok (.iload_n 3, 1) := by decide +kernel
theorem dX7_nameInterpreters_34 : decode cX7_nameInterpreters 34 = .ok (.iconst (-1), 1) := by decide +kernel
theorem dX7_nameInterpreters_35 : decode cX7_nameInterpreters 35 = .ok (.if_icmp .eq 17, 3) := by decide +kernel
theorem dX7_nameInterpreters_38 : decode cX7_nameInterpreters 38 = .ok (.aload_n 0, 1) := by decide +kernel
theorem dX7_nameInterpreters_39 : decode cX7_nameInterpreters 39 = .ok (.getfield 10, 3) := by decide +kernel
theorem dX7_nameInterpreters_42 : decode cX7_nameInterpreters 42 = .ok (.getfield 64, 3) := by decide +kernel
theorem dX7_nameInterpreters_45 : decode cX7_nameInterpreters 45 = .ok (.iload_n 3, 1) := by decide +kernel
theorem dX7_nameInterpreters_46 : decode cX7_nameInterpreters 46 = .ok (.invokevirtual 105, 3) := by decide +kernel
theorem dX7_nameInterpreters_49 : decode cX7_nameInterpreters 49 = .ok (.ifCond .eq 7, 3) := by decide +kernel
theorem dX7_nameInterpreters_52 : decode cX7_nameInterpreters 52 = .ok (.iconst 1, 1) := by decide +kernel
theorem dX7_nameInterpreters_53 : decode cX7_nameInterpreters 53 = .ok (.goto 4, 3) := by decide +kernel
theorem dX7_nameInterpreters_56 : decode cX7_nameInterpreters 56 = .ok (.iconst 0, 1) := by decide +kernel
theorem dX7_nameInterpreters_57 : decode cX7_nameInterpreters 57 = .ok (.ireturn, 1) := by decide +kernel
theorem dX7_areRowOfDifferent_0 : decode cX7_areRowOfDifferent 0 = .ok (.iload_n 1, 1) := by decide +kernel
theorem dX7_areRowOfDifferent_1 : decode cX7_areRowOfDifferent 1 = .ok (.iconst (-1), 1) := by decide +kernel
theorem dX7_areRowOfDifferent_2 : decode cX7_areRowOfDifferent 2 = .ok (.if_icmp .ne 14, 3) := by decide +kernel
theorem dX7_areRowOfDifferent_5 : decode cX7_areRowOfDifferent 5 = .ok (.iload_n 2, 1) := by decide +kernel
theorem dX7_areRowOfDifferent_6 : decode cX7_areRowOfDifferent 6 = .ok (.iconst (-1), 1) := by decide +kernel
theorem dX7_areRowOfDifferent_7 : decode cX7_areRowOfDifferent 7 = .ok (.if_icmp .ne 7, 3) := by decide +kernel
theorem dX7_areRowOfDifferent_10 : decode cX7_areRowOfDifferent 10 = .ok (.iconst 1, 1) := by decide +kernel
theorem dX7_areRowOfDifferent_11 : decode cX7_areRowOfDifferent 11 = .ok (.goto 4, 3) := by decide +kernel
theorem dX7_areRowOfDifferent_14 : decode cX7_areRowOfDifferent 14 = .ok (.iconst 0, 1) := by decide +kernel
theorem dX7_areRowOfDifferent_15 : decode cX7_areRowOfDifferent 15 = .ok (.ireturn, 1) := by decide +kernel
theorem dX7_areRowOfDifferent_16 : decode cX7_areRowOfDifferent 16 = .ok (.iload_n 0, 1) := by decide +kernel
theorem dX7_areRowOfDifferent_17 : decode cX7_areRowOfDifferent 17 = .ok (.iload_n 1, 1) := by decide +kernel
theorem dX7_areRowOfDifferent_18 : decode cX7_areRowOfDifferent 18 = .ok (.if_icmp .eq 17, 3) := by decide +kernel
theorem dX7_areRowOfDifferent_21 : decode cX7_areRowOfDifferent 21 = .ok (.iload_n 0, 1) := by decide +kernel
theorem dX7_areRowOfDifferent_22 : decode cX7_areRowOfDifferent 22 = .ok (.iload_n 2, 1) := by decide +kernel
theorem dX7_areRowOfDifferent_23 : decode cX7_areRowOfDifferent 23 = .ok (.if_icmp .eq 12, 3) := by decide +kernel
theorem dX7_areRowOfDifferent_26 : decode cX7_areRowOfDifferent 26 = .ok (.iload_n 1, 1) := by decide +kernel
theorem dX7_areRowOfDifferent_27 : decode cX7_areRowOfDifferent 27 = .ok (.iload_n 2, 1) := by decide +kernel
theorem dX7_areRowOfDifferent_28 : decode cX7_areRowOfDifferent 28 = .ok (.if_icmp .eq 7, 3) := by decide +kernel
theorem dX7_areRowOfDifferent_31 : decode cX7_areRowOfDifferent 31 = .ok (.iconst 1, 1) := by decide +kernel
theorem dX7_areRowOfDifferent_32 : decode cX7_areRowOfDifferent 32 = .ok (.goto 4, 3) := by decide +kernel
theorem dX7_areRowOfDifferent_35 : decode cX7_areRowOfDifferent 35 = .ok (.iconst 0, 1) := by decide +kernel
theorem dX7_areRowOfDifferent_36 : decode cX7_areRowOfDifferent 36 = .ok (.ireturn, 1) := by decide +kernel
theorem dX7_bitOf_0 : decode cX7_bitOf 0 = .ok (.iload_n 0, 1) := by decide +kernel
theorem dX7_bitOf_1 : decode cX7_bitOf 1 = .ok (.ifCond .ge 7, 3) := by decide +kernel
theorem dX7_bitOf_4 : decode cX7_bitOf 4 = .ok (.iconst 0, 1) := by decide +kernel
theorem dX7_bitOf_5 : decode cX7_bitOf 5 = .ok (.goto 6, 3) := by decide +kernel
theorem dX7_bitOf_8 : decode cX7_bitOf 8 = .ok (.iconst 1, 1) := by decide +kernel
theorem dX7_bitOf_9 : decode cX7_bitOf 9 = .ok (.iload_n 0, 1) := by decide +kernel
theorem dX7_bitOf_10 : decode cX7_bitOf 10 = .ok (.ishl, 1) := by decide +kernel
theorem dX7_bitOf_11 : decode cX7_bitOf 11 = .ok (.ireturn, 1) := by decide +kernel
theorem dX7_maskOf_0 : decode cX7_maskOf 0 = .ok (.iload_n 0, 1) := by decide +kernel
theorem dX7_maskOf_1 : decode cX7_maskOf 1 = .ok (.invokestatic 326, 3) := by decide +kernel
theorem dX7_maskOf_4 : decode cX7_maskOf 4 = .ok (.iload_n 1, 1) := by decide +kernel
theorem dX7_maskOf_5 : decode cX7_maskOf 5 = .ok (.invokestatic 326, 3) := by decide +kernel
theorem dX7_maskOf_8 : decode cX7_maskOf 8 = .ok (.ior, 1) := by decide +kernel
theorem dX7_maskOf_9 : decode cX7_maskOf 9 = .ok (.iload_n 2, 1) := by decide +kernel
theorem dX7_maskOf_10 : decode cX7_maskOf 10 = .ok (.invokestatic 326, 3) := by decide +kernel
theorem dX7_maskOf_13 : decode cX7_maskOf 13 = .ok (.ior, 1) := by decide +kernel
theorem dX7_maskOf_14 : decode cX7_maskOf 14 = .ok (.ireturn, 1) := by decide +kernel
theorem dJ6_bitCount_0f7a4_0 : decode cJ6_bitCount_0f7a4 0 = .ok (.iload_n 0, 1) := by decide +kernel
theorem dJ6_bitCount_0f7a4_1 : decode cJ6_bitCount_0f7a4 1 = .ok (.iload_n 0, 1) := by decide +kernel
theorem dJ6_bitCount_0f7a4_2 : decode cJ6_bitCount_0f7a4 2 = .ok (.iconst 1, 1) := by decide +kernel
theorem dJ6_bitCount_0f7a4_3 : decode cJ6_bitCount_0f7a4 3 = .ok (.iushr, 1) := by decide +kernel
theorem dJ6_bitCount_0f7a4_4 : decode cJ6_bitCount_0f7a4 4 = .ok (.ldc_w 265, 3) := by decide +kernel
theorem dJ6_bitCount_0f7a4_7 : decode cJ6_bitCount_0f7a4 7 = .ok (.iand, 1) := by decide +kernel
theorem dJ6_bitCount_0f7a4_8 : decode cJ6_bitCount_0f7a4 8 = .ok (.isub, 1) := by decide +kernel
theorem dJ6_bitCount_0f7a4_9 : decode cJ6_bitCount_0f7a4 9 = .ok (.istore_n 0, 1) := by decide +kernel
theorem dJ6_bitCount_0f7a4_10 : decode cJ6_bitCount_0f7a4 10 = .ok (.iload_n 0, 1) := by decide +kernel
theorem dJ6_bitCount_0f7a4_11 : decode cJ6_bitCount_0f7a4 11 = .ok (.ldc_w 266, 3) := by decide +kernel
theorem dJ6_bitCount_0f7a4_14 : decode cJ6_bitCount_0f7a4 14 = .ok (.iand, 1) := by decide +kernel
theorem dJ6_bitCount_0f7a4_15 : decode cJ6_bitCount_0f7a4 15 = .ok (.iload_n 0, 1) := by decide +kernel
theorem dJ6_bitCount_0f7a4_16 : decode cJ6_bitCount_0f7a4 16 = .ok (.iconst 2, 1) := by decide +kernel
theorem dJ6_bitCount_0f7a4_17 : decode cJ6_bitCount_0f7a4 17 = .ok (.iushr, 1) := by decide +kernel
theorem dJ6_bitCount_0f7a4_18 : decode cJ6_bitCount_0f7a4 18 = .ok (.ldc_w 266, 3) := by decide +kernel
theorem dJ6_bitCount_0f7a4_21 : decode cJ6_bitCount_0f7a4 21 = .ok (.iand, 1) := by decide +kernel
theorem dJ6_bitCount_0f7a4_22 : decode cJ6_bitCount_0f7a4 22 = .ok (.iadd, 1) := by decide +kernel
theorem dJ6_bitCount_0f7a4_23 : decode cJ6_bitCount_0f7a4 23 = .ok (.istore_n 0, 1) := by decide +kernel
theorem dJ6_bitCount_0f7a4_24 : decode cJ6_bitCount_0f7a4 24 = .ok (.iload_n 0, 1) := by decide +kernel
theorem dJ6_bitCount_0f7a4_25 : decode cJ6_bitCount_0f7a4 25 = .ok (.iload_n 0, 1) := by decide +kernel
theorem dJ6_bitCount_0f7a4_26 : decode cJ6_bitCount_0f7a4 26 = .ok (.iconst 4, 1) := by decide +kernel
theorem dJ6_bitCount_0f7a4_27 : decode cJ6_bitCount_0f7a4 27 = .ok (.iushr, 1) := by decide +kernel
theorem dJ6_bitCount_0f7a4_28 : decode cJ6_bitCount_0f7a4 28 = .ok (.iadd, 1) := by decide +kernel
theorem dJ6_bitCount_0f7a4_29 : decode cJ6_bitCount_0f7a4 29 = .ok (.ldc_w 267, 3) := by decide +kernel
theorem dJ6_bitCount_0f7a4_32 : decode cJ6_bitCount_0f7a4 32 = .ok (.iand, 1) := by decide +kernel
theorem dJ6_bitCount_0f7a4_33 : decode cJ6_bitCount_0f7a4 33 = .ok (.istore_n 0, 1) := by decide +kernel
theorem dJ6_bitCount_0f7a4_34 : decode cJ6_bitCount_0f7a4 34 = .ok (.iload_n 0, 1) := by decide +kernel
theorem dJ6_bitCount_0f7a4_35 : decode cJ6_bitCount_0f7a4 35 = .ok (.iload_n 0, 1) := by decide +kernel
theorem dJ6_bitCount_0f7a4_36 : decode cJ6_bitCount_0f7a4 36 = .ok (.bipush 8, 2) := by decide +kernel
theorem dJ6_bitCount_0f7a4_38 : decode cJ6_bitCount_0f7a4 38 = .ok (.iushr, 1) := by decide +kernel
theorem dJ6_bitCount_0f7a4_39 : decode cJ6_bitCount_0f7a4 39 = .ok (.iadd, 1) := by decide +kernel
theorem dJ6_bitCount_0f7a4_40 : decode cJ6_bitCount_0f7a4 40 = .ok (.istore_n 0, 1) := by decide +kernel
theorem dJ6_bitCount_0f7a4_41 : decode cJ6_bitCount_0f7a4 41 = .ok (.iload_n 0, 1) := by decide +kernel
theorem dJ6_bitCount_0f7a4_42 : decode cJ6_bitCount_0f7a4 42 = .ok (.iload_n 0, 1) := by decide +kernel
theorem dJ6_bitCount_0f7a4_43 : decode cJ6_bitCount_0f7a4 43 = .ok (.bipush 16, 2) := by decide +kernel
theorem dJ6_bitCount_0f7a4_45 : decode cJ6_bitCount_0f7a4 45 = .ok (.iushr, 1) := by decide +kernel
theorem dJ6_bitCount_0f7a4_46 : decode cJ6_bitCount_0f7a4 46 = .ok (.iadd, 1) := by decide +kernel
theorem dJ6_bitCount_0f7a4_47 : decode cJ6_bitCount_0f7a4 47 = .ok (.istore_n 0, 1) := by decide +kernel
theorem dJ6_bitCount_0f7a4_48 : decode cJ6_bitCount_0f7a4 48 = .ok (.iload_n 0, 1) := by decide +kernel
theorem dJ6_bitCount_0f7a4_49 : decode cJ6_bitCount_0f7a4 49 = .ok (.bipush 63, 2) := by decide +kernel
theorem dJ6_bitCount_0f7a4_51 : decode cJ6_bitCount_0f7a4 51 = .ok (.iand, 1) := by decide +kernel
theorem dJ6_bitCount_0f7a4_52 : decode cJ6_bitCount_0f7a4 52 = .ok (.ireturn, 1) := by decide +kernel
theorem dJ9_max_7cf53_0 : decode cJ9_max_7cf53 0 = .ok (.iload_n 0, 1) := by decide +kernel
theorem dJ9_max_7cf53_1 : decode cJ9_max_7cf53 1 = .ok (.iload_n 1, 1) := by decide +kernel
theorem dJ9_max_7cf53_2 : decode cJ9_max_7cf53 2 = .ok (.if_icmp .lt 7, 3) := by decide +kernel
theorem dJ9_max_7cf53_5 : decode cJ9_max_7cf53 5 = .ok (.iload_n 0, 1) := by decide +kernel
theorem dJ9_max_7cf53_6 : decode cJ9_max_7cf53 6 = .ok (.goto 4, 3) := by decide +kernel
theorem dJ9_max_7cf53_9 : decode cJ9_max_7cf53 9 = .ok (.iload_n 1, 1) := by decide +kernel
theorem dJ9_max_7cf53_10 : decode cJ9_max_7cf53 10 = .ok (.ireturn, 1) := by decide +kernel
theorem dJ9_min_7cf53_0 : decode cJ9_min_7cf53 0 = .ok (.iload_n 0, 1) := by decide +kernel
theorem dJ9_min_7cf53_1 : decode cJ9_min_7cf53 1 = .ok (.iload_n 1, 1) := by decide +kernel
theorem dJ9_min_7cf53_2 : decode cJ9_min_7cf53 2 = .ok (.if_icmp .gt 7, 3) := by decide +kernel
theorem dJ9_min_7cf53_5 : decode cJ9_min_7cf53 5 = .ok (.iload_n 0, 1) := by decide +kernel
theorem dJ9_min_7cf53_6 : decode cJ9_min_7cf53 6 = .ok (.goto 4, 3) := by decide +kernel
theorem dJ9_min_7cf53_9 : decode cJ9_min_7cf53 9 = .ok (.iload_n 1, 1) := by decide +kernel
theorem dJ9_min_7cf53_10 : decode cJ9_min_7cf53 10 = .ok (.ireturn, 1) := by decide +kernel
theorem dL_cell_0 : decode cL_cell 0 = .ok (.iload_n 1, 1) := by decide +kernel
theorem dL_cell_1 : decode cL_cell 1 = .ok (.aload_n 0, 1) := by decide +kernel
theorem dL_cell_2 : decode cL_cell 2 = .ok (.arraylength, 1) := by decide +kernel
theorem dL_cell_3 : decode cL_cell 3 = .ok (.if_icmp .ge 9, 3) := by decide +kernel
theorem dL_cell_6 : decode cL_cell 6 = .ok (.aload_n 0, 1) := by decide +kernel
theorem dL_cell_7 : decode cL_cell 7 = .ok (.iload_n 1, 1) := by decide +kernel
theorem dL_cell_8 : decode cL_cell 8 = .ok (.iaload, 1) := by decide +kernel
theorem dL_cell_9 : decode cL_cell 9 = .ok (.goto 10, 3) := by decide +kernel
theorem dL_cell_12 : decode cL_cell 12 = .ok (.ldc 7, 2) := by decide +kernel
theorem dL_cell_14 : decode cL_cell 14 = .ok (.iload_n 1, 1) := by decide +kernel
theorem dL_cell_15 : decode cL_cell 15 = .ok (.bipush 113, 2) := by decide +kernel
theorem dL_cell_17 : decode cL_cell 17 = .ok (.iadd, 1) := by decide +kernel
theorem dL_cell_18 : decode cL_cell 18 = .ok (.imul, 1) := by decide +kernel
theorem dL_cell_19 : decode cL_cell 19 = .ok (.ireturn, 1) := by decide +kernel
theorem dL_at_0 : decode cL_at 0 = .ok (.iload_n 0, 1) := by decide +kernel
theorem dL_at_1 : decode cL_at 1 = .ok (.iconst 1, 1) := by decide +kernel
theorem dL_at_2 : decode cL_at 2 = .ok (.iushr, 1) := by decide +kernel
theorem dL_at_3 : decode cL_at 3 = .ok (.iload_n 1, 1) := by decide +kernel
theorem dL_at_4 : decode cL_at 4 = .ok (.irem, 1) := by decide +kernel
theorem dL_at_5 : decode cL_at 5 = .ok (.ireturn, 1) := by decide +kernel
theorem dL_size_0 : decode cL_size 0 = .ok (.iload_n 0, 1) := by decide +kernel
theorem dL_size_1 : decode cL_size 1 = .ok (.ifCond .ne 7, 3) := by decide +kernel
theorem dL_size_4 : decode cL_size 4 = .ok (.iconst 0, 1) := by decide +kernel
theorem dL_size_5 : decode cL_size 5 = .ok (.goto 25, 3) := by decide +kernel
theorem dL_size_8 : decode cL_size 8 = .ok (.iload_n 0, 1) := by decide +kernel
theorem dL_size_9 : decode cL_size 9 = .ok (.bipush 16, 2) := by decide +kernel
theorem dL_size_11 : decode cL_size 11 = .ok (.if_icmp .ge 7, 3) := by decide +kernel
theorem dL_size_14 : decode cL_size 14 = .ok (.iconst 1, 1) := by decide +kernel
theorem dL_size_15 : decode cL_size 15 = .ok (.goto 15, 3) := by decide +kernel
theorem dL_size_18 : decode cL_size 18 = .ok (.iload_n 0, 1) := by decide +kernel
theorem dL_size_19 : decode cL_size 19 = .ok (.sipush 256, 3) := by decide +kernel
theorem dL_size_22 : decode cL_size 22 = .ok (.if_icmp .ge 7, 3) := by decide +kernel
theorem dL_size_25 : decode cL_size 25 = .ok (.iconst 2, 1) := by decide +kernel
theorem dL_size_26 : decode cL_size 26 = .ok (.goto 4, 3) := by decide +kernel
theorem dL_size_29 : decode cL_size 29 = .ok (.iconst 3, 1) := by decide +kernel
theorem dL_size_30 : decode cL_size 30 = .ok (.ireturn, 1) := by decide +kernel
theorem dL_who_0 : decode cL_who 0 = .ok (.iload_n 0, 1) := by decide +kernel
theorem dL_who_1 : decode cL_who 1 = .ok (.iconst 4, 1) := by decide +kernel
theorem dL_who_2 : decode cL_who 2 = .ok (.iload_n 1, 1) := by decide +kernel
theorem dL_who_3 : decode cL_who 3 = .ok (.imul, 1) := by decide +kernel
theorem dL_who_4 : decode cL_who 4 = .ok (.ishr, 1) := by decide +kernel
theorem dL_who_5 : decode cL_who 5 = .ok (.bipush 15, 2) := by decide +kernel
theorem dL_who_7 : decode cL_who 7 = .ok (.iand, 1) := by decide +kernel
theorem dL_who_8 : decode cL_who 8 = .ok (.iconst 1, 1) := by decide +kernel
theorem dL_who_9 : decode cL_who 9 = .ok (.isub, 1) := by decide +kernel
theorem dL_who_10 : decode cL_who 10 = .ok (.ireturn, 1) := by decide +kernel
theorem dL_has_0 : decode cL_has 0 = .ok (.iload_n 0, 1) := by decide +kernel
theorem dL_has_1 : decode cL_has 1 = .ok (.iconst 0, 1) := by decide +kernel
theorem dL_has_2 : decode cL_has 2 = .ok (.invokestatic 8, 3) := by decide +kernel
theorem dL_has_5 : decode cL_has 5 = .ok (.iload_n 1, 1) := by decide +kernel
theorem dL_has_6 : decode cL_has 6 = .ok (.if_icmp .eq 21, 3) := by decide +kernel
theorem dL_has_9 : decode cL_has 9 = .ok (.iload_n 0, 1) := by decide +kernel
theorem dL_has_10 : decode cL_has 10 = .ok (.iconst 1, 1) := by decide +kernel
theorem dL_has_11 : decode cL_has 11 = .ok (.invokestatic 8, 3) := by decide +kernel
theorem dL_has_14 : decode cL_has 14 = .ok (.iload_n 1, 1) := by decide +kernel
theorem dL_has_15 : decode cL_has 15 = .ok (.if_icmp .eq 12, 3) := by decide +kernel
theorem dL_has_18 : decode cL_has 18 = .ok (.iload_n 0, 1) := by decide +kernel
theorem dL_has_19 : decode cL_has 19 = .ok (.iconst 2, 1) := by decide +kernel
theorem dL_has_20 : decode cL_has 20 = .ok (.invokestatic 8, 3) := by decide +kernel
theorem dL_has_23 : decode cL_has 23 = .ok (.iload_n 1, 1) := by decide +kernel
theorem dL_has_24 : decode cL_has 24 = .ok (.if_icmp .ne 7, 3) := by decide +kernel
theorem dL_has_27 : decode cL_has 27 = .ok (.iconst 1, 1) := by decide +kernel
theorem dL_has_28 : decode cL_has 28 = .ok (.goto 4, 3) := by decide +kernel
theorem dL_has_31 : decode cL_has 31 = .ok (.iconst 0, 1) := by decide +kernel
theorem dL_has_32 : decode cL_has 32 = .ok (.ireturn, 1) := by decide +kernel
theorem dL_earns_0 : decode cL_earns 0 = .ok (.aload_n 1, 1) := by decide +kernel
theorem dL_earns_1 : decode cL_earns 1 = .ok (.bipush 6, 2) := by decide +kernel
theorem dL_earns_3 : decode cL_earns 3 = .ok (.iload 4, 2) := by decide +kernel
theorem dL_earns_5 : decode cL_earns 5 = .ok (.imul, 1) := by decide +kernel
theorem dL_earns_6 : decode cL_earns 6 = .ok (.iconst 2, 1) := by decide +kernel
theorem dL_earns_7 : decode cL_earns 7 = .ok (.iadd, 1) := by decide +kernel
theorem dL_earns_8 : decode cL_earns 8 = .ok (.iaload, 1) := by decide +kernel
theorem dL_earns_9 : decode cL_earns 9 = .ok (.aload_n 2, 1) := by decide +kernel
theorem dL_earns_10 : decode cL_earns 10 = .ok (.bipush 6, 2) := by decide +kernel
theorem dL_earns_12 : decode cL_earns 12 = .ok (.iload_n 3, 1) := by decide +kernel
theorem dL_earns_13 : decode cL_earns 13 = .ok (.imul, 1) := by decide +kernel
theorem dL_earns_14 : decode cL_earns 14 = .ok (.iconst 3, 1) := by decide +kernel
theorem dL_earns_15 : decode cL_earns 15 = .ok (.iadd, 1) := by decide +kernel
theorem dL_earns_16 : decode cL_earns 16 = .ok (.iaload, 1) := by decide +kernel
theorem dL_earns_17 : decode cL_earns 17 = .ok (.imul, 1) := by decide +kernel
theorem dL_earns_18 : decode cL_earns 18 = .ok (.istore 6, 2) := by decide +kernel
theorem dL_earns_20 : decode cL_earns 20 = .ok (.iload 6, 2) := by decide +kernel
theorem dL_earns_22 : decode cL_earns 22 = .ok (.bipush 10, 2) := by decide +kernel
theorem dL_earns_24 : decode cL_earns 24 = .ok (.idiv, 1) := by decide +kernel
theorem dL_earns_25 : decode cL_earns 25 = .ok (.iload 6, 2) := by decide +kernel
theorem dL_earns_27 : decode cL_earns 27 = .ok (.bipush 10, 2) := by decide +kernel
theorem dL_earns_29 : decode cL_earns 29 = .ok (.irem, 1) := by decide +kernel
theorem dL_earns_30 : decode cL_earns 30 = .ok (.ifCond .le 7, 3) := by decide +kernel
theorem dL_earns_33 : decode cL_earns 33 = .ok (.iconst 1, 1) := by decide +kernel
theorem dL_earns_34 : decode cL_earns 34 = .ok (.goto 4, 3) := by decide +kernel
theorem dL_earns_37 : decode cL_earns 37 = .ok (.iconst 0, 1) := by decide +kernel
theorem dL_earns_38 : decode cL_earns 38 = .ok (.iadd, 1) := by decide +kernel
theorem dL_earns_39 : decode cL_earns 39 = .ok (.istore 7, 2) := by decide +kernel
theorem dL_earns_41 : decode cL_earns 41 = .ok (.iload 5, 2) := by decide +kernel
theorem dL_earns_43 : decode cL_earns 43 = .ok (.iconst 1, 1) := by decide +kernel
theorem dL_earns_44 : decode cL_earns 44 = .ok (.if_icmp .ne 8, 3) := by decide +kernel
theorem dL_earns_47 : decode cL_earns 47 = .ok (.iload 7, 2) := by decide +kernel
theorem dL_earns_49 : decode cL_earns 49 = .ok (.goto 16, 3) := by decide +kernel
theorem dL_earns_52 : decode cL_earns 52 = .ok (.iload 7, 2) := by decide +kernel
theorem dL_earns_54 : decode cL_earns 54 = .ok (.bipush 100, 2) := by decide +kernel
theorem dL_earns_56 : decode cL_earns 56 = .ok (.aload_n 0, 1) := by decide +kernel
theorem dL_earns_57 : decode cL_earns 57 = .ok (.bipush 13, 2) := by decide +kernel
theorem dL_earns_59 : decode cL_earns 59 = .ok (.iaload, 1) := by decide +kernel
theorem dL_earns_60 : decode cL_earns 60 = .ok (.iadd, 1) := by decide +kernel
theorem dL_earns_61 : decode cL_earns 61 = .ok (.imul, 1) := by decide +kernel
theorem dL_earns_62 : decode cL_earns 62 = .ok (.bipush 100, 2) := by decide +kernel
theorem dL_earns_64 : decode cL_earns 64 = .ok (.idiv, 1) := by decide +kernel
theorem dL_earns_65 : decode cL_earns 65 = .ok (.ireturn, 1) := by decide +kernel
theorem dL_together_0 : decode cL_together 0 = .ok (.iconst 0, 1) := by decide +kernel
theorem dL_together_1 : decode cL_together 1 = .ok (.istore 6, 2) := by decide +kernel
theorem dL_together_3 : decode cL_together 3 = .ok (.aload_n 3, 1) := by decide +kernel
theorem dL_together_4 : decode cL_together 4 = .ok (.iload 4, 2) := by decide +kernel
theorem dL_together_6 : decode cL_together 6 = .ok (.iaload, 1) := by decide +kernel
theorem dL_together_7 : decode cL_together 7 = .ok (.invokestatic 14, 3) := by decide +kernel
theorem dL_together_10 : decode cL_together 10 = .ok (.istore 7, 2) := by decide +kernel
theorem dL_together_12 : decode cL_together 12 = .ok (.iconst 0, 1) := by decide +kernel
theorem dL_together_13 : decode cL_together 13 = .ok (.istore 8, 2) := by decide +kernel
theorem dL_together_15 : decode cL_together 15 = .ok (.iload 8, 2) := by decide +kernel
theorem dL_together_17 : decode cL_together 17 = .ok (.iload 7, 2) := by decide +kernel
theorem dL_together_19 : decode cL_together 19 = .ok (.if_icmp .ge 73, 3) := by decide +kernel
theorem dL_together_22 : decode cL_together 22 = .ok (.iload 6, 2) := by decide +kernel
theorem dL_together_24 : decode cL_together 24 = .ok (.iload 5, 2) := by decide +kernel
theorem dL_together_26 : decode cL_together 26 = .ok (.iconst 2, 1) := by decide +kernel
theorem dL_together_27 : decode cL_together 27 = .ok (.if_icmp .ne 25, 3) := by decide +kernel
theorem dL_together_30 : decode cL_together 30 = .ok (.aload_n 0, 1) := by decide +kernel
theorem dL_together_31 : decode cL_together 31 = .ok (.aload_n 1, 1) := by decide +kernel
theorem dL_together_32 : decode cL_together 32 = .ok (.aload_n 2, 1) := by decide +kernel
theorem dL_together_33 : decode cL_together 33 = .ok (.iload 4, 2) := by decide +kernel
theorem dL_together_35 : decode cL_together 35 = .ok (.aload_n 3, 1) := by decide +kernel
theorem dL_together_36 : decode cL_together 36 = .ok (.iload 4, 2) := by decide +kernel
theorem dL_together_38 : decode cL_together 38 = .ok (.iaload, 1) := by decide +kernel
theorem dL_together_39 : decode cL_together 39 = .ok (.iload 8, 2) := by decide +kernel
theorem dL_together_41 : decode cL_together 41 = .ok (.invokestatic 8, 3) := by decide +kernel
theorem dL_together_44 : decode cL_together 44 = .ok (.iload 7, 2) := by decide +kernel
theorem dL_together_46 : decode cL_together 46 = .ok (.invokestatic 18, 3) := by decide +kernel
theorem dL_together_49 : decode cL_together 49 = .ok (.goto 34, 3) := by decide +kernel
theorem dL_together_52 : decode cL_together 52 = .ok (.iload 5, 2) := by decide +kernel
theorem dL_together_54 : decode cL_together 54 = .ok (.iconst 1, 1) := by decide +kernel
theorem dL_together_55 : decode cL_together 55 = .ok (.if_icmp .ne 27, 3) := by decide +kernel
theorem dL_together_58 : decode cL_together 58 = .ok (.aload_n 0, 1) := by decide +kernel
theorem dL_together_59 : decode cL_together 59 = .ok (.aload_n 1, 1) := by decide +kernel
theorem dL_together_60 : decode cL_together 60 = .ok (.aload_n 2, 1) := by decide +kernel
theorem dL_together_61 : decode cL_together 61 = .ok (.iload 4, 2) := by decide +kernel
theorem dL_together_63 : decode cL_together 63 = .ok (.aload_n 3, 1) := by decide +kernel
theorem dL_together_64 : decode cL_together 64 = .ok (.iload 4, 2) := by decide +kernel
theorem dL_together_66 : decode cL_together 66 = .ok (.iaload, 1) := by decide +kernel
theorem dL_together_67 : decode cL_together 67 = .ok (.iload 8, 2) := by decide +kernel
theorem dL_together_69 : decode cL_together 69 = .ok (.invokestatic 8, 3) := by decide +kernel
theorem dL_together_72 : decode cL_together 72 = .ok (.iload 7, 2) := by decide +kernel
theorem dL_together_74 : decode cL_together 74 = .ok (.invokestatic 18, 3) := by decide +kernel
theorem dL_together_77 : decode cL_together 77 = .ok (.iconst 2, 1) := by decide +kernel
theorem dL_together_78 : decode cL_together 78 = .ok (.idiv, 1) := by decide +kernel
theorem dL_together_79 : decode cL_together 79 = .ok (.goto 4, 3) := by decide +kernel
theorem dL_together_82 : decode cL_together 82 = .ok (.iconst 0, 1) := by decide +kernel
theorem dL_together_83 : decode cL_together 83 = .ok (.iadd, 1) := by decide +kernel
theorem dL_together_84 : decode cL_together 84 = .ok (.istore 6, 2) := by decide +kernel
theorem dL_together_86 : decode cL_together 86 = .ok (.iinc 8 1, 3) := by decide +kernel
theorem dL_together_89 : decode cL_together 89 = .ok (.goto (-74), 3) := by decide +kernel
theorem dL_together_92 : decode cL_together 92 = .ok (.iload 6, 2) := by decide +kernel
theorem dL_together_94 : decode cL_together 94 = .ok (.ireturn, 1) := by decide +kernel
theorem dL_pays_0 : decode cL_pays 0 = .ok (.aload_n 3, 1) := by decide +kernel
theorem dL_pays_1 : decode cL_pays 1 = .ok (.iload 4, 2) := by decide +kernel
theorem dL_pays_3 : decode cL_pays 3 = .ok (.iaload, 1) := by decide +kernel
theorem dL_pays_4 : decode cL_pays 4 = .ok (.invokestatic 14, 3) := by decide +kernel
theorem dL_pays_7 : decode cL_pays 7 = .ok (.istore 6, 2) := by decide +kernel
theorem dL_pays_9 : decode cL_pays 9 = .ok (.iconst 0, 1) := by decide +kernel
theorem dL_pays_10 : decode cL_pays 10 = .ok (.istore 7, 2) := by decide +kernel
theorem dL_pays_12 : decode cL_pays 12 = .ok (.iload 7, 2) := by decide +kernel
theorem dL_pays_14 : decode cL_pays 14 = .ok (.iload 6, 2) := by decide +kernel
theorem dL_pays_16 : decode cL_pays 16 = .ok (.if_icmp .ge 71, 3) := by decide +kernel
theorem dL_pays_19 : decode cL_pays 19 = .ok (.aload_n 3, 1) := by decide +kernel
theorem dL_pays_20 : decode cL_pays 20 = .ok (.iload 4, 2) := by decide +kernel
theorem dL_pays_22 : decode cL_pays 22 = .ok (.iaload, 1) := by decide +kernel
theorem dL_pays_23 : decode cL_pays 23 = .ok (.iload 7, 2) := by decide +kernel
theorem dL_pays_25 : decode cL_pays 25 = .ok (.invokestatic 8, 3) := by decide +kernel
theorem dL_pays_28 : decode cL_pays 28 = .ok (.istore 8, 2) := by decide +kernel
theorem dL_pays_30 : decode cL_pays 30 = .ok (.aload_n 0, 1) := by decide +kernel
theorem dL_pays_31 : decode cL_pays 31 = .ok (.aload_n 1, 1) := by decide +kernel
theorem dL_pays_32 : decode cL_pays 32 = .ok (.aload_n 2, 1) := by decide +kernel
theorem dL_pays_33 : decode cL_pays 33 = .ok (.iload 4, 2) := by decide +kernel
theorem dL_pays_35 : decode cL_pays 35 = .ok (.iload 8, 2) := by decide +kernel
theorem dL_pays_37 : decode cL_pays 37 = .ok (.iload 6, 2) := by decide +kernel
theorem dL_pays_39 : decode cL_pays 39 = .ok (.invokestatic 18, 3) := by decide +kernel
theorem dL_pays_42 : decode cL_pays 42 = .ok (.istore 9, 2) := by decide +kernel
theorem dL_pays_44 : decode cL_pays 44 = .ok (.aload_n 1, 1) := by decide +kernel
theorem dL_pays_45 : decode cL_pays 45 = .ok (.bipush 6, 2) := by decide +kernel
theorem dL_pays_47 : decode cL_pays 47 = .ok (.iload 8, 2) := by decide +kernel
theorem dL_pays_49 : decode cL_pays 49 = .ok (.imul, 1) := by decide +kernel
theorem dL_pays_50 : decode cL_pays 50 = .ok (.iconst 4, 1) := by decide +kernel
theorem dL_pays_51 : decode cL_pays 51 = .ok (.iadd, 1) := by decide +kernel
theorem dL_pays_52 : decode cL_pays 52 = .ok (.dup2, 1) := by decide +kernel
theorem dL_pays_53 : decode cL_pays 53 = .ok (.iaload, 1) := by decide +kernel
theorem dL_pays_54 : decode cL_pays 54 = .ok (.iload 5, 2) := by decide +kernel
theorem dL_pays_56 : decode cL_pays 56 = .ok (.iconst 2, 1) := by decide +kernel
theorem dL_pays_57 : decode cL_pays 57 = .ok (.if_icmp .ne 8, 3) := by decide +kernel
theorem dL_pays_60 : decode cL_pays 60 = .ok (.iload 9, 2) := by decide +kernel
theorem dL_pays_62 : decode cL_pays 62 = .ok (.goto 17, 3) := by decide +kernel
theorem dL_pays_65 : decode cL_pays 65 = .ok (.iload 5, 2) := by decide +kernel
theorem dL_pays_67 : decode cL_pays 67 = .ok (.iconst 1, 1) := by decide +kernel
theorem dL_pays_68 : decode cL_pays 68 = .ok (.if_icmp .ne 10, 3) := by decide +kernel
theorem dL_pays_71 : decode cL_pays 71 = .ok (.iload 9, 2) := by decide +kernel
theorem dL_pays_73 : decode cL_pays 73 = .ok (.iconst 2, 1) := by decide +kernel
theorem dL_pays_74 : decode cL_pays 74 = .ok (.idiv, 1) := by decide +kernel
theorem dL_pays_75 : decode cL_pays 75 = .ok (.goto 4, 3) := by decide +kernel
theorem dL_pays_78 : decode cL_pays 78 = .ok (.iconst 0, 1) := by decide +kernel
theorem dL_pays_79 : decode cL_pays 79 = .ok (.iadd, 1) := by decide +kernel
theorem dL_pays_80 : decode cL_pays 80 = .ok (.iastore, 1) := by decide +kernel
theorem dL_pays_81 : decode cL_pays 81 = .ok (.iinc 7 1, 3) := by decide +kernel
theorem dL_pays_84 : decode cL_pays 84 = .ok (.goto (-72), 3) := by decide +kernel
theorem dL_pays_87 : decode cL_pays 87 = .ok (.aload_n 0, 1) := by decide +kernel
theorem dL_pays_88 : decode cL_pays 88 = .ok (.aload_n 1, 1) := by decide +kernel
theorem dL_pays_89 : decode cL_pays 89 = .ok (.aload_n 2, 1) := by decide +kernel
theorem dL_pays_90 : decode cL_pays 90 = .ok (.aload_n 3, 1) := by decide +kernel
theorem dL_pays_91 : decode cL_pays 91 = .ok (.iload 4, 2) := by decide +kernel
theorem dL_pays_93 : decode cL_pays 93 = .ok (.iload 5, 2) := by decide +kernel
theorem dL_pays_95 : decode cL_pays 95 = .ok (.invokestatic 22, 3) := by decide +kernel
theorem dL_pays_98 : decode cL_pays 98 = .ok (.istore 7, 2) := by decide +kernel
theorem dL_pays_100 : decode cL_pays 100 = .ok (.aload_n 2, 1) := by decide +kernel
theorem dL_pays_101 : decode cL_pays 101 = .ok (.bipush 6, 2) := by decide +kernel
theorem dL_pays_103 : decode cL_pays 103 = .ok (.iload 4, 2) := by decide +kernel
theorem dL_pays_105 : decode cL_pays 105 = .ok (.imul, 1) := by decide +kernel
theorem dL_pays_106 : decode cL_pays 106 = .ok (.iconst 5, 1) := by decide +kernel
theorem dL_pays_107 : decode cL_pays 107 = .ok (.iadd, 1) := by decide +kernel
theorem dL_pays_108 : decode cL_pays 108 = .ok (.dup2, 1) := by decide +kernel
theorem dL_pays_109 : decode cL_pays 109 = .ok (.iaload, 1) := by decide +kernel
theorem dL_pays_110 : decode cL_pays 110 = .ok (.iload 7, 2) := by decide +kernel
theorem dL_pays_112 : decode cL_pays 112 = .ok (.iadd, 1) := by decide +kernel
theorem dL_pays_113 : decode cL_pays 113 = .ok (.iastore, 1) := by decide +kernel
theorem dL_pays_114 : decode cL_pays 114 = .ok (.aload_n 0, 1) := by decide +kernel
theorem dL_pays_115 : decode cL_pays 115 = .ok (.iconst 3, 1) := by decide +kernel
theorem dL_pays_116 : decode cL_pays 116 = .ok (.dup2, 1) := by decide +kernel
theorem dL_pays_117 : decode cL_pays 117 = .ok (.iaload, 1) := by decide +kernel
theorem dL_pays_118 : decode cL_pays 118 = .ok (.iload 7, 2) := by decide +kernel
theorem dL_pays_120 : decode cL_pays 120 = .ok (.iadd, 1) := by decide +kernel
theorem dL_pays_121 : decode cL_pays 121 = .ok (.iastore, 1) := by decide +kernel
theorem dL_pays_122 : decode cL_pays 122 = .ok (.iload 7, 2) := by decide +kernel
theorem dL_pays_124 : decode cL_pays 124 = .ok (.ireturn, 1) := by decide +kernel
theorem dL_clash_0 : decode cL_clash 0 = .ok (.aload_n 0, 1) := by decide +kernel
theorem dL_clash_1 : decode cL_clash 1 = .ok (.bipush 6, 2) := by decide +kernel
theorem dL_clash_3 : decode cL_clash 3 = .ok (.iload_n 1, 1) := by decide +kernel
theorem dL_clash_4 : decode cL_clash 4 = .ok (.imul, 1) := by decide +kernel
theorem dL_clash_5 : decode cL_clash 5 = .ok (.iconst 2, 1) := by decide +kernel
theorem dL_clash_6 : decode cL_clash 6 = .ok (.iadd, 1) := by decide +kernel
theorem dL_clash_7 : decode cL_clash 7 = .ok (.iaload, 1) := by decide +kernel
theorem dL_clash_8 : decode cL_clash 8 = .ok (.aload_n 0, 1) := by decide +kernel
theorem dL_clash_9 : decode cL_clash 9 = .ok (.bipush 6, 2) := by decide +kernel
theorem dL_clash_11 : decode cL_clash 11 = .ok (.iload_n 2, 1) := by decide +kernel
theorem dL_clash_12 : decode cL_clash 12 = .ok (.imul, 1) := by decide +kernel
theorem dL_clash_13 : decode cL_clash 13 = .ok (.iconst 2, 1) := by decide +kernel
theorem dL_clash_14 : decode cL_clash 14 = .ok (.iadd, 1) := by decide +kernel
theorem dL_clash_15 : decode cL_clash 15 = .ok (.iaload, 1) := by decide +kernel
theorem dL_clash_16 : decode cL_clash 16 = .ok (.aload_n 0, 1) := by decide +kernel
theorem dL_clash_17 : decode cL_clash 17 = .ok (.bipush 6, 2) := by decide +kernel
theorem dL_clash_19 : decode cL_clash 19 = .ok (.iload_n 2, 1) := by decide +kernel
theorem dL_clash_20 : decode cL_clash 20 = .ok (.imul, 1) := by decide +kernel
theorem dL_clash_21 : decode cL_clash 21 = .ok (.iconst 3, 1) := by decide +kernel
theorem dL_clash_22 : decode cL_clash 22 = .ok (.iadd, 1) := by decide +kernel
theorem dL_clash_23 : decode cL_clash 23 = .ok (.iaload, 1) := by decide +kernel
theorem dL_clash_24 : decode cL_clash 24 = .ok (.iadd, 1) := by decide +kernel
theorem dL_clash_25 : decode cL_clash 25 = .ok (.if_icmp .ge 35, 3) := by decide +kernel
theorem dL_clash_28 : decode cL_clash 28 = .ok (.aload_n 0, 1) := by decide +kernel
theorem dL_clash_29 : decode cL_clash 29 = .ok (.bipush 6, 2) := by decide +kernel
theorem dL_clash_31 : decode cL_clash 31 = .ok (.iload_n 2, 1) := by decide +kernel
theorem dL_clash_32 : decode cL_clash 32 = .ok (.imul, 1) := by decide +kernel
theorem dL_clash_33 : decode cL_clash 33 = .ok (.iconst 2, 1) := by decide +kernel
theorem dL_clash_34 : decode cL_clash 34 = .ok (.iadd, 1) := by decide +kernel
theorem dL_clash_35 : decode cL_clash 35 = .ok (.iaload, 1) := by decide +kernel
theorem dL_clash_36 : decode cL_clash 36 = .ok (.aload_n 0, 1) := by decide +kernel
theorem dL_clash_37 : decode cL_clash 37 = .ok (.bipush 6, 2) := by decide +kernel
theorem dL_clash_39 : decode cL_clash 39 = .ok (.iload_n 1, 1) := by decide +kernel
theorem dL_clash_40 : decode cL_clash 40 = .ok (.imul, 1) := by decide +kernel
theorem dL_clash_41 : decode cL_clash 41 = .ok (.iconst 2, 1) := by decide +kernel
theorem dL_clash_42 : decode cL_clash 42 = .ok (.iadd, 1) := by decide +kernel
theorem dL_clash_43 : decode cL_clash 43 = .ok (.iaload, 1) := by decide +kernel
theorem dL_clash_44 : decode cL_clash 44 = .ok (.aload_n 0, 1) := by decide +kernel
theorem dL_clash_45 : decode cL_clash 45 = .ok (.bipush 6, 2) := by decide +kernel
theorem dL_clash_47 : decode cL_clash 47 = .ok (.iload_n 1, 1) := by decide +kernel
theorem dL_clash_48 : decode cL_clash 48 = .ok (.imul, 1) := by decide +kernel
theorem dL_clash_49 : decode cL_clash 49 = .ok (.iconst 3, 1) := by decide +kernel
theorem dL_clash_50 : decode cL_clash 50 = .ok (.iadd, 1) := by decide +kernel
theorem dL_clash_51 : decode cL_clash 51 = .ok (.iaload, 1) := by decide +kernel
theorem dL_clash_52 : decode cL_clash 52 = .ok (.iadd, 1) := by decide +kernel
theorem dL_clash_53 : decode cL_clash 53 = .ok (.if_icmp .ge 7, 3) := by decide +kernel
theorem dL_clash_56 : decode cL_clash 56 = .ok (.iconst 1, 1) := by decide +kernel
theorem dL_clash_57 : decode cL_clash 57 = .ok (.goto 4, 3) := by decide +kernel
theorem dL_clash_60 : decode cL_clash 60 = .ok (.iconst 0, 1) := by decide +kernel
theorem dL_clash_61 : decode cL_clash 61 = .ok (.ireturn, 1) := by decide +kernel
theorem dL_why_0 : decode cL_why 0 = .ok (.aload_n 2, 1) := by decide +kernel
theorem dL_why_1 : decode cL_why 1 = .ok (.bipush 6, 2) := by decide +kernel
theorem dL_why_3 : decode cL_why 3 = .ok (.iload 4, 2) := by decide +kernel
theorem dL_why_5 : decode cL_why 5 = .ok (.imul, 1) := by decide +kernel
theorem dL_why_6 : decode cL_why 6 = .ok (.iconst 4, 1) := by decide +kernel
theorem dL_why_7 : decode cL_why 7 = .ok (.iadd, 1) := by decide +kernel
theorem dL_why_8 : decode cL_why 8 = .ok (.iaload, 1) := by decide +kernel
theorem dL_why_9 : decode cL_why 9 = .ok (.ifCond .le 5, 3) := by decide +kernel
theorem dL_why_12 : decode cL_why 12 = .ok (.iconst 1, 1) := by decide +kernel
theorem dL_why_13 : decode cL_why 13 = .ok (.ireturn, 1) := by decide +kernel
theorem dL_why_14 : decode cL_why 14 = .ok (.aload_n 2, 1) := by decide +kernel
theorem dL_why_15 : decode cL_why 15 = .ok (.bipush 6, 2) := by decide +kernel
theorem dL_why_17 : decode cL_why 17 = .ok (.iload 4, 2) := by decide +kernel
theorem dL_why_19 : decode cL_why 19 = .ok (.imul, 1) := by decide +kernel
theorem dL_why_20 : decode cL_why 20 = .ok (.iconst 2, 1) := by decide +kernel
theorem dL_why_21 : decode cL_why 21 = .ok (.iadd, 1) := by decide +kernel
theorem dL_why_22 : decode cL_why 22 = .ok (.iaload, 1) := by decide +kernel
theorem dL_why_23 : decode cL_why 23 = .ok (.aload_n 0, 1) := by decide +kernel
theorem dL_why_24 : decode cL_why 24 = .ok (.iconst 2, 1) := by decide +kernel
theorem dL_why_25 : decode cL_why 25 = .ok (.iaload, 1) := by decide +kernel
theorem dL_why_26 : decode cL_why 26 = .ok (.if_icmp .gt 5, 3) := by decide +kernel
theorem dL_why_29 : decode cL_why 29 = .ok (.iconst 2, 1) := by decide +kernel
theorem dL_why_30 : decode cL_why 30 = .ok (.ireturn, 1) := by decide +kernel
theorem dL_why_31 : decode cL_why 31 = .ok (.iload 5, 2) := by decide +kernel
theorem dL_why_33 : decode cL_why 33 = .ok (.invokestatic 14, 3) := by decide +kernel
theorem dL_why_36 : decode cL_why 36 = .ok (.istore 6, 2) := by decide +kernel
theorem dL_why_38 : decode cL_why 38 = .ok (.aload_n 1, 1) := by decide +kernel
theorem dL_why_39 : decode cL_why 39 = .ok (.bipush 6, 2) := by decide +kernel
theorem dL_why_41 : decode cL_why 41 = .ok (.iload 5, 2) := by decide +kernel
theorem dL_why_43 : decode cL_why 43 = .ok (.iconst 0, 1) := by decide +kernel
theorem dL_why_44 : decode cL_why 44 = .ok (.invokestatic 8, 3) := by decide +kernel
theorem dL_why_47 : decode cL_why 47 = .ok (.imul, 1) := by decide +kernel
theorem dL_why_48 : decode cL_why 48 = .ok (.iaload, 1) := by decide +kernel
theorem dL_why_49 : decode cL_why 49 = .ok (.aload_n 2, 1) := by decide +kernel
theorem dL_why_50 : decode cL_why 50 = .ok (.bipush 6, 2) := by decide +kernel
theorem dL_why_52 : decode cL_why 52 = .ok (.iload 4, 2) := by decide +kernel
theorem dL_why_54 : decode cL_why 54 = .ok (.imul, 1) := by decide +kernel
theorem dL_why_55 : decode cL_why 55 = .ok (.iconst 1, 1) := by decide +kernel
theorem dL_why_56 : decode cL_why 56 = .ok (.iadd, 1) := by decide +kernel
theorem dL_why_57 : decode cL_why 57 = .ok (.iaload, 1) := by decide +kernel
theorem dL_why_58 : decode cL_why 58 = .ok (.ishr, 1) := by decide +kernel
theorem dL_why_59 : decode cL_why 59 = .ok (.iconst 1, 1) := by decide +kernel
theorem dL_why_60 : decode cL_why 60 = .ok (.iand, 1) := by decide +kernel
theorem dL_why_61 : decode cL_why 61 = .ok (.ifCond .eq 22, 3) := by decide +kernel
theorem dL_why_64 : decode cL_why 64 = .ok (.aload_n 1, 1) := by decide +kernel
theorem dL_why_65 : decode cL_why 65 = .ok (.bipush 6, 2) := by decide +kernel
theorem dL_why_67 : decode cL_why 67 = .ok (.iload 5, 2) := by decide +kernel
theorem dL_why_69 : decode cL_why 69 = .ok (.iload 6, 2) := by decide +kernel
theorem dL_why_71 : decode cL_why 71 = .ok (.iconst 1, 1) := by decide +kernel
theorem dL_why_72 : decode cL_why 72 = .ok (.isub, 1) := by decide +kernel
theorem dL_why_73 : decode cL_why 73 = .ok (.invokestatic 8, 3) := by decide +kernel
theorem dL_why_76 : decode cL_why 76 = .ok (.imul, 1) := by decide +kernel
theorem dL_why_77 : decode cL_why 77 = .ok (.iaload, 1) := by decide +kernel
theorem dL_why_78 : decode cL_why 78 = .ok (.iconst 1, 1) := by decide +kernel
theorem dL_why_79 : decode cL_why 79 = .ok (.iand, 1) := by decide +kernel
theorem dL_why_80 : decode cL_why 80 = .ok (.ifCond .ne 5, 3) := by decide +kernel
theorem dL_why_83 : decode cL_why 83 = .ok (.iconst 3, 1) := by decide +kernel
theorem dL_why_84 : decode cL_why 84 = .ok (.ireturn, 1) := by decide +kernel
theorem dL_why_85 : decode cL_why 85 = .ok (.iconst 1, 1) := by decide +kernel
theorem dL_why_86 : decode cL_why 86 = .ok (.istore 7, 2) := by decide +kernel
theorem dL_why_88 : decode cL_why 88 = .ok (.iload 7, 2) := by decide +kernel
theorem dL_why_90 : decode cL_why 90 = .ok (.iload 6, 2) := by decide +kernel
theorem dL_why_92 : decode cL_why 92 = .ok (.if_icmp .ge 41, 3) := by decide +kernel
theorem dL_why_95 : decode cL_why 95 = .ok (.aload_n 1, 1) := by decide +kernel
theorem dL_why_96 : decode cL_why 96 = .ok (.bipush 6, 2) := by decide +kernel
theorem dL_why_98 : decode cL_why 98 = .ok (.iload 5, 2) := by decide +kernel
theorem dL_why_100 : decode cL_why 100 = .ok (.iload 7, 2) := by decide +kernel
theorem dL_why_102 : decode cL_why 102 = .ok (.invokestatic 8, 3) := by decide +kernel
theorem dL_why_105 : decode cL_why 105 = .ok (.imul, 1) := by decide +kernel
theorem dL_why_106 : decode cL_why 106 = .ok (.iaload, 1) := by decide +kernel
theorem dL_why_107 : decode cL_why 107 = .ok (.aload_n 1, 1) := by decide +kernel
theorem dL_why_108 : decode cL_why 108 = .ok (.bipush 6, 2) := by decide +kernel
theorem dL_why_110 : decode cL_why 110 = .ok (.iload 5, 2) := by decide +kernel
theorem dL_why_112 : decode cL_why 112 = .ok (.iload 7, 2) := by decide +kernel
theorem dL_why_114 : decode cL_why 114 = .ok (.iconst 1, 1) := by decide +kernel
theorem dL_why_115 : decode cL_why 115 = .ok (.isub, 1) := by decide +kernel
theorem dL_why_116 : decode cL_why 116 = .ok (.invokestatic 8, 3) := by decide +kernel
theorem dL_why_119 : decode cL_why 119 = .ok (.imul, 1) := by decide +kernel
theorem dL_why_120 : decode cL_why 120 = .ok (.iaload, 1) := by decide +kernel
theorem dL_why_121 : decode cL_why 121 = .ok (.iand, 1) := by decide +kernel
theorem dL_why_122 : decode cL_why 122 = .ok (.ifCond .ne 5, 3) := by decide +kernel
theorem dL_why_125 : decode cL_why 125 = .ok (.iconst 3, 1) := by decide +kernel
theorem dL_why_126 : decode cL_why 126 = .ok (.ireturn, 1) := by decide +kernel
theorem dL_why_127 : decode cL_why 127 = .ok (.iinc 7 1, 3) := by decide +kernel
theorem dL_why_130 : decode cL_why 130 = .ok (.goto (-42), 3) := by decide +kernel
theorem dL_why_133 : decode cL_why 133 = .ok (.iconst 0, 1) := by decide +kernel
theorem dL_why_134 : decode cL_why 134 = .ok (.istore 7, 2) := by decide +kernel
theorem dL_why_136 : decode cL_why 136 = .ok (.iload 7, 2) := by decide +kernel
theorem dL_why_138 : decode cL_why 138 = .ok (.iload 6, 2) := by decide +kernel
theorem dL_why_140 : decode cL_why 140 = .ok (.if_icmp .ge 38, 3) := by decide +kernel
theorem dL_why_143 : decode cL_why 143 = .ok (.aload_n 1, 1) := by decide +kernel
theorem dL_why_144 : decode cL_why 144 = .ok (.bipush 6, 2) := by decide +kernel
theorem dL_why_146 : decode cL_why 146 = .ok (.iload 5, 2) := by decide +kernel
theorem dL_why_148 : decode cL_why 148 = .ok (.iload 7, 2) := by decide +kernel
theorem dL_why_150 : decode cL_why 150 = .ok (.invokestatic 8, 3) := by decide +kernel
theorem dL_why_153 : decode cL_why 153 = .ok (.imul, 1) := by decide +kernel
theorem dL_why_154 : decode cL_why 154 = .ok (.iconst 1, 1) := by decide +kernel
theorem dL_why_155 : decode cL_why 155 = .ok (.iadd, 1) := by decide +kernel
theorem dL_why_156 : decode cL_why 156 = .ok (.iaload, 1) := by decide +kernel
theorem dL_why_157 : decode cL_why 157 = .ok (.aload_n 2, 1) := by decide +kernel
theorem dL_why_158 : decode cL_why 158 = .ok (.bipush 6, 2) := by decide +kernel
theorem dL_why_160 : decode cL_why 160 = .ok (.iload 4, 2) := by decide +kernel
theorem dL_why_162 : decode cL_why 162 = .ok (.imul, 1) := by decide +kernel
theorem dL_why_163 : decode cL_why 163 = .ok (.iaload, 1) := by decide +kernel
theorem dL_why_164 : decode cL_why 164 = .ok (.ishr, 1) := by decide +kernel
theorem dL_why_165 : decode cL_why 165 = .ok (.iconst 1, 1) := by decide +kernel
theorem dL_why_166 : decode cL_why 166 = .ok (.iand, 1) := by decide +kernel
theorem dL_why_167 : decode cL_why 167 = .ok (.ifCond .ne 5, 3) := by decide +kernel
theorem dL_why_170 : decode cL_why 170 = .ok (.iconst 4, 1) := by decide +kernel
theorem dL_why_171 : decode cL_why 171 = .ok (.ireturn, 1) := by decide +kernel
theorem dL_why_172 : decode cL_why 172 = .ok (.iinc 7 1, 3) := by decide +kernel
theorem dL_why_175 : decode cL_why 175 = .ok (.goto (-39), 3) := by decide +kernel
theorem dL_why_178 : decode cL_why 178 = .ok (.iconst 0, 1) := by decide +kernel
theorem dL_why_179 : decode cL_why 179 = .ok (.istore 7, 2) := by decide +kernel
theorem dL_why_181 : decode cL_why 181 = .ok (.iload 7, 2) := by decide +kernel
theorem dL_why_183 : decode cL_why 183 = .ok (.iload 6, 2) := by decide +kernel
theorem dL_why_185 : decode cL_why 185 = .ok (.if_icmp .ge 75, 3) := by decide +kernel
theorem dL_why_188 : decode cL_why 188 = .ok (.iconst 0, 1) := by decide +kernel
theorem dL_why_189 : decode cL_why 189 = .ok (.istore 8, 2) := by decide +kernel
theorem dL_why_191 : decode cL_why 191 = .ok (.iload 8, 2) := by decide +kernel
theorem dL_why_193 : decode cL_why 193 = .ok (.aload_n 0, 1) := by decide +kernel
theorem dL_why_194 : decode cL_why 194 = .ok (.iconst 1, 1) := by decide +kernel
theorem dL_why_195 : decode cL_why 195 = .ok (.iaload, 1) := by decide +kernel
theorem dL_why_196 : decode cL_why 196 = .ok (.if_icmp .ge 58, 3) := by decide +kernel
theorem dL_why_199 : decode cL_why 199 = .ok (.iload 8, 2) := by decide +kernel
