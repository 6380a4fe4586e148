theorem dX8_rightUpTo_2 : decode cX8_rightUpTo 2 = .ok (.putfield 162, 3) := by decide +kernel
theorem dX8_rightUpTo_5 : decode cX8_rightUpTo 5 = .ok (.aload_n 0, 1) := by decide +kernel
theorem dX8_rightUpTo_6 : decode cX8_rightUpTo 6 = .ok (.iconst (-1), 1) := by decide +kernel
theorem dX8_rightUpTo_7 : decode cX8_rightUpTo 7 = .ok (.putfield 156, 3) := by decide +kernel
theorem dX8_rightUpTo_10 : decode cX8_rightUpTo 10 = .ok (.aload_n 0, 1) := by decide +kernel
theorem dX8_rightUpTo_11 : decode cX8_rightUpTo 11 = .ok (.iconst 0, 1) := by decide +kernel
theorem dX8_rightUpTo_12 : decode cX8_rightUpTo 12 = .ok (.putfield 159, 3) := by decide +kernel
theorem dX8_rightUpTo_15 : decode cX8_rightUpTo 15 = .ok (.iconst 0, 1) := by decide +kernel
theorem dX8_rightUpTo_16 : decode cX8_rightUpTo 16 = .ok (.istore_n 1, 1) := by decide +kernel
theorem dX8_rightUpTo_17 : decode cX8_rightUpTo 17 = .ok (.iload_n 1, 1) := by decide +kernel
theorem dX8_rightUpTo_18 : decode cX8_rightUpTo 18 = .ok (.aload_n 0, 1) := by decide +kernel
theorem dX8_rightUpTo_19 : decode cX8_rightUpTo 19 = .ok (.getfield 153, 3) := by decide +kernel
theorem dX8_rightUpTo_22 : decode cX8_rightUpTo 22 = .ok (.if_icmp .ge 22, 3) := by decide +kernel
theorem dX8_rightUpTo_25 : decode cX8_rightUpTo 25 = .ok (.aload_n 0, 1) := by decide +kernel
theorem dX8_rightUpTo_26 : decode cX8_rightUpTo 26 = .ok (.aload_n 0, 1) := by decide +kernel
theorem dX8_rightUpTo_27 : decode cX8_rightUpTo 27 = .ok (.getfield 16, 3) := by decide +kernel
theorem dX8_rightUpTo_30 : decode cX8_rightUpTo 30 = .ok (.iload_n 1, 1) := by decide +kernel
theorem dX8_rightUpTo_31 : decode cX8_rightUpTo 31 = .ok (.iaload, 1) := by decide +kernel
theorem dX8_rightUpTo_32 : decode cX8_rightUpTo 32 = .ok (.invokevirtual 174, 3) := by decide +kernel
theorem dX8_rightUpTo_35 : decode cX8_rightUpTo 35 = .ok (.ifCond .eq 9, 3) := by decide +kernel
theorem dX8_rightUpTo_38 : decode cX8_rightUpTo 38 = .ok (.iinc 1 1, 3) := by decide +kernel
theorem dX8_rightUpTo_41 : decode cX8_rightUpTo 41 = .ok (.goto (-24), 3) := by decide +kernel
theorem dX8_rightUpTo_44 : decode cX8_rightUpTo 44 = .ok (.iload_n 1, 1) := by decide +kernel
theorem dX8_rightUpTo_45 : decode cX8_rightUpTo 45 = .ok (.ireturn, 1) := by decide +kernel
theorem dX8_firstError_0 : decode cX8_firstError 0 = .ok (.aload_n 0, 1) := by decide +kernel
theorem dX8_firstError_1 : decode cX8_firstError 1 = .ok (.iconst 0, 1) := by decide +kernel
theorem dX8_firstError_2 : decode cX8_firstError 2 = .ok (.putfield 31, 3) := by decide +kernel
theorem dX8_firstError_5 : decode cX8_firstError 5 = .ok (.aload_n 0, 1) := by decide +kernel
theorem dX8_firstError_6 : decode cX8_firstError 6 = .ok (.invokevirtual 177, 3) := by decide +kernel
theorem dX8_firstError_9 : decode cX8_firstError 9 = .ok (.ireturn, 1) := by decide +kernel
theorem dX8_addList_0 : decode cX8_addList 0 = .ok (.aload_n 0, 1) := by decide +kernel
theorem dX8_addList_1 : decode cX8_addList 1 = .ok (.invokevirtual 177, 3) := by decide +kernel
theorem dX8_addList_4 : decode cX8_addList 4 = .ok (.aload_n 0, 1) := by decide +kernel
theorem dX8_addList_5 : decode cX8_addList 5 = .ok (.getfield 153, 3) := by decide +kernel
theorem dX8_addList_8 : decode cX8_addList 8 = .ok (.if_icmp .ne 24, 3) := by decide +kernel
theorem dX8_addList_11 : decode cX8_addList 11 = .ok (.aload_n 0, 1) := by decide +kernel
theorem dX8_addList_12 : decode cX8_addList 12 = .ok (.getfield 159, 3) := by decide +kernel
theorem dX8_addList_15 : decode cX8_addList 15 = .ok (.iconst 4, 1) := by decide +kernel
theorem dX8_addList_16 : decode cX8_addList 16 = .ok (.if_icmp .ne 16, 3) := by decide +kernel
theorem dX8_addList_19 : decode cX8_addList 19 = .ok (.aload_n 0, 1) := by decide +kernel
theorem dX8_addList_20 : decode cX8_addList 20 = .ok (.getfield 156, 3) := by decide +kernel
theorem dX8_addList_23 : decode cX8_addList 23 = .ok (.bipush 9, 2) := by decide +kernel
theorem dX8_addList_25 : decode cX8_addList 25 = .ok (.if_icmp .le 7, 3) := by decide +kernel
theorem dX8_addList_28 : decode cX8_addList 28 = .ok (.iconst 1, 1) := by decide +kernel
theorem dX8_addList_29 : decode cX8_addList 29 = .ok (.goto 4, 3) := by decide +kernel
theorem dX8_addList_32 : decode cX8_addList 32 = .ok (.iconst 0, 1) := by decide +kernel
theorem dX8_addList_33 : decode cX8_addList 33 = .ok (.istore_n 1, 1) := by decide +kernel
theorem dX8_addList_34 : decode cX8_addList 34 = .ok (.aload_n 0, 1) := by decide +kernel
theorem dX8_addList_35 : decode cX8_addList 35 = .ok (.iload_n 1, 1) := by decide +kernel
theorem dX8_addList_36 : decode cX8_addList 36 = .ok (.ifCond .ne 7, 3) := by decide +kernel
theorem dX8_addList_39 : decode cX8_addList 39 = .ok (.iconst 1, 1) := by decide +kernel
theorem dX8_addList_40 : decode cX8_addList 40 = .ok (.goto 27, 3) := by decide +kernel
theorem dX8_addList_43 : decode cX8_addList 43 = .ok (.aload_n 0, 1) := by decide +kernel
theorem dX8_addList_44 : decode cX8_addList 44 = .ok (.getfield 7, 3) := by decide +kernel
theorem dX8_addList_47 : decode cX8_addList 47 = .ok (.bipush 8, 2) := by decide +kernel
theorem dX8_addList_49 : decode cX8_addList 49 = .ok (.iaload, 1) := by decide +kernel
theorem dX8_addList_50 : decode cX8_addList 50 = .ok (.aload_n 0, 1) := by decide +kernel
theorem dX8_addList_51 : decode cX8_addList 51 = .ok (.getfield 162, 3) := by decide +kernel
theorem dX8_addList_54 : decode cX8_addList 54 = .ok (.iadd, 1) := by decide +kernel
theorem dX8_addList_55 : decode cX8_addList 55 = .ok (.iconst 1, 1) := by decide +kernel
theorem dX8_addList_56 : decode cX8_addList 56 = .ok (.iadd, 1) := by decide +kernel
theorem dX8_addList_57 : decode cX8_addList 57 = .ok (.bipush 30, 2) := by decide +kernel
theorem dX8_addList_59 : decode cX8_addList 59 = .ok (.if_icmp .le 7, 3) := by decide +kernel
theorem dX8_addList_62 : decode cX8_addList 62 = .ok (.iconst 2, 1) := by decide +kernel
theorem dX8_addList_63 : decode cX8_addList 63 = .ok (.goto 4, 3) := by decide +kernel
theorem dX8_addList_66 : decode cX8_addList 66 = .ok (.iconst 0, 1) := by decide +kernel
theorem dX8_addList_67 : decode cX8_addList 67 = .ok (.putfield 31, 3) := by decide +kernel
theorem dX8_addList_70 : decode cX8_addList 70 = .ok (.aload_n 0, 1) := by decide +kernel
theorem dX8_addList_71 : decode cX8_addList 71 = .ok (.getfield 31, 3) := by decide +kernel
theorem dX8_addList_74 : decode cX8_addList 74 = .ok (.ifCond .le 5, 3) := by decide +kernel
theorem dX8_addList_77 : decode cX8_addList 77 = .ok (.iconst 0, 1) := by decide +kernel
theorem dX8_addList_78 : decode cX8_addList 78 = .ok (.ireturn, 1) := by decide +kernel
theorem dX8_addList_79 : decode cX8_addList 79 = .ok (.aload_n 0, 1) := by decide +kernel
theorem dX8_addList_80 : decode cX8_addList 80 = .ok (.invokevirtual 71, 3) := by decide +kernel
theorem dX8_addList_83 : decode cX8_addList 83 = .ok (.aload_n 0, 1) := by decide +kernel
theorem dX8_addList_84 : decode cX8_addList 84 = .ok (.invokevirtual 168, 3) := by decide +kernel
theorem dX8_addList_87 : decode cX8_addList 87 = .ok (.aload_n 0, 1) := by decide +kernel
theorem dX8_addList_88 : decode cX8_addList 88 = .ok (.iconst 0, 1) := by decide +kernel
theorem dX8_addList_89 : decode cX8_addList 89 = .ok (.putfield 153, 3) := by decide +kernel
theorem dX8_addList_92 : decode cX8_addList 92 = .ok (.iconst 0, 1) := by decide +kernel
theorem dX8_addList_93 : decode cX8_addList 93 = .ok (.istore_n 2, 1) := by decide +kernel
theorem dX8_addList_94 : decode cX8_addList 94 = .ok (.iload_n 2, 1) := by decide +kernel
theorem dX8_addList_95 : decode cX8_addList 95 = .ok (.iconst 4, 1) := by decide +kernel
theorem dX8_addList_96 : decode cX8_addList 96 = .ok (.aload_n 0, 1) := by decide +kernel
theorem dX8_addList_97 : decode cX8_addList 97 = .ok (.getfield 162, 3) := by decide +kernel
theorem dX8_addList_100 : decode cX8_addList 100 = .ok (.imul, 1) := by decide +kernel
theorem dX8_addList_101 : decode cX8_addList 101 = .ok (.if_icmp .ge 44, 3) := by decide +kernel
theorem dX8_addList_104 : decode cX8_addList 104 = .ok (.aload_n 0, 1) := by decide +kernel
theorem dX8_addList_105 : decode cX8_addList 105 = .ok (.aload_n 0, 1) := by decide +kernel
theorem dX8_addList_106 : decode cX8_addList 106 = .ok (.getfield 22, 3) := by decide +kernel
theorem dX8_addList_109 : decode cX8_addList 109 = .ok (.iload_n 2, 1) := by decide +kernel
theorem dX8_addList_110 : decode cX8_addList 110 = .ok (.iaload, 1) := by decide +kernel
theorem dX8_addList_111 : decode cX8_addList 111 = .ok (.aload_n 0, 1) := by decide +kernel
theorem dX8_addList_112 : decode cX8_addList 112 = .ok (.getfield 22, 3) := by decide +kernel
theorem dX8_addList_115 : decode cX8_addList 115 = .ok (.iload_n 2, 1) := by decide +kernel
theorem dX8_addList_116 : decode cX8_addList 116 = .ok (.iconst 1, 1) := by decide +kernel
theorem dX8_addList_117 : decode cX8_addList 117 = .ok (.iadd, 1) := by decide +kernel
theorem dX8_addList_118 : decode cX8_addList 118 = .ok (.iaload, 1) := by decide +kernel
theorem dX8_addList_119 : decode cX8_addList 119 = .ok (.aload_n 0, 1) := by decide +kernel
theorem dX8_addList_120 : decode cX8_addList 120 = .ok (.getfield 22, 3) := by decide +kernel
theorem dX8_addList_123 : decode cX8_addList 123 = .ok (.iload_n 2, 1) := by decide +kernel
theorem dX8_addList_124 : decode cX8_addList 124 = .ok (.iconst 2, 1) := by decide +kernel
theorem dX8_addList_125 : decode cX8_addList 125 = .ok (.iadd, 1) := by decide +kernel
theorem dX8_addList_126 : decode cX8_addList 126 = .ok (.iaload, 1) := by decide +kernel
theorem dX8_addList_127 : decode cX8_addList 127 = .ok (.aload_n 0, 1) := by decide +kernel
theorem dX8_addList_128 : decode cX8_addList 128 = .ok (.getfield 22, 3) := by decide +kernel
theorem dX8_addList_131 : decode cX8_addList 131 = .ok (.iload_n 2, 1) := by decide +kernel
theorem dX8_addList_132 : decode cX8_addList 132 = .ok (.iconst 3, 1) := by decide +kernel
theorem dX8_addList_133 : decode cX8_addList 133 = .ok (.iadd, 1) := by decide +kernel
theorem dX8_addList_134 : decode cX8_addList 134 = .ok (.iaload, 1) := by decide +kernel
theorem dX8_addList_135 : decode cX8_addList 135 = .ok (.invokevirtual 78, 3) := by decide +kernel
theorem dX8_addList_138 : decode cX8_addList 138 = .ok (.pop, 1) := by decide +kernel
theorem dX8_addList_139 : decode cX8_addList 139 = .ok (.iinc 2 4, 3) := by decide +kernel
theorem dX8_addList_142 : decode cX8_addList 142 = .ok (.goto (-48), 3) := by decide +kernel
theorem dX8_addList_145 : decode cX8_addList 145 = .ok (.aload_n 0, 1) := by decide +kernel
theorem dX8_addList_146 : decode cX8_addList 146 = .ok (.getfield 7, 3) := by decide +kernel
theorem dX8_addList_149 : decode cX8_addList 149 = .ok (.bipush 8, 2) := by decide +kernel
theorem dX8_addList_151 : decode cX8_addList 151 = .ok (.iaload, 1) := by decide +kernel
theorem dX8_addList_152 : decode cX8_addList 152 = .ok (.ireturn, 1) := by decide +kernel
theorem dX8_undo_0 : decode cX8_undo 0 = .ok (.aload_n 0, 1) := by decide +kernel
theorem dX8_undo_1 : decode cX8_undo 1 = .ok (.aload_n 0, 1) := by decide +kernel
theorem dX8_undo_2 : decode cX8_undo 2 = .ok (.getfield 35, 3) := by decide +kernel
theorem dX8_undo_5 : decode cX8_undo 5 = .ok (.ifCond .le 7, 3) := by decide +kernel
theorem dX8_undo_8 : decode cX8_undo 8 = .ok (.iconst 0, 1) := by decide +kernel
theorem dX8_undo_9 : decode cX8_undo 9 = .ok (.goto 4, 3) := by decide +kernel
theorem dX8_undo_12 : decode cX8_undo 12 = .ok (.iconst 1, 1) := by decide +kernel
theorem dX8_undo_13 : decode cX8_undo 13 = .ok (.putfield 31, 3) := by decide +kernel
theorem dX8_undo_16 : decode cX8_undo 16 = .ok (.aload_n 0, 1) := by decide +kernel
theorem dX8_undo_17 : decode cX8_undo 17 = .ok (.getfield 31, 3) := by decide +kernel
theorem dX8_undo_20 : decode cX8_undo 20 = .ok (.ifCond .le 5, 3) := by decide +kernel
theorem dX8_undo_23 : decode cX8_undo 23 = .ok (.iconst 0, 1) := by decide +kernel
theorem dX8_undo_24 : decode cX8_undo 24 = .ok (.ireturn, 1) := by decide +kernel
theorem dX8_undo_25 : decode cX8_undo 25 = .ok (.aload_n 0, 1) := by decide +kernel
theorem dX8_undo_26 : decode cX8_undo 26 = .ok (.dup, 1) := by decide +kernel
theorem dX8_undo_27 : decode cX8_undo 27 = .ok (.getfield 35, 3) := by decide +kernel
theorem dX8_undo_30 : decode cX8_undo 30 = .ok (.iconst 1, 1) := by decide +kernel
theorem dX8_undo_31 : decode cX8_undo 31 = .ok (.isub, 1) := by decide +kernel
theorem dX8_undo_32 : decode cX8_undo 32 = .ok (.putfield 35, 3) := by decide +kernel
theorem dX8_undo_35 : decode cX8_undo 35 = .ok (.iconst 0, 1) := by decide +kernel
theorem dX8_undo_36 : decode cX8_undo 36 = .ok (.istore_n 1, 1) := by decide +kernel
theorem dX8_undo_37 : decode cX8_undo 37 = .ok (.iload_n 1, 1) := by decide +kernel
theorem dX8_undo_38 : decode cX8_undo 38 = .ok (.sipush 373, 3) := by decide +kernel
theorem dX8_undo_41 : decode cX8_undo 41 = .ok (.if_icmp .ge 30, 3) := by decide +kernel
theorem dX8_undo_44 : decode cX8_undo 44 = .ok (.aload_n 0, 1) := by decide +kernel
theorem dX8_undo_45 : decode cX8_undo 45 = .ok (.getfield 7, 3) := by decide +kernel
theorem dX8_undo_48 : decode cX8_undo 48 = .ok (.iload_n 1, 1) := by decide +kernel
theorem dX8_undo_49 : decode cX8_undo 49 = .ok (.aload_n 0, 1) := by decide +kernel
theorem dX8_undo_50 : decode cX8_undo 50 = .ok (.getfield 13, 3) := by decide +kernel
theorem dX8_undo_53 : decode cX8_undo 53 = .ok (.sipush 373, 3) := by decide +kernel
theorem dX8_undo_56 : decode cX8_undo 56 = .ok (.aload_n 0, 1) := by decide +kernel
theorem dX8_undo_57 : decode cX8_undo 57 = .ok (.getfield 35, 3) := by decide +kernel
theorem dX8_undo_60 : decode cX8_undo 60 = .ok (.imul, 1) := by decide +kernel
theorem dX8_undo_61 : decode cX8_undo 61 = .ok (.iload_n 1, 1) := by decide +kernel
theorem dX8_undo_62 : decode cX8_undo 62 = .ok (.iadd, 1) := by decide +kernel
theorem dX8_undo_63 : decode cX8_undo 63 = .ok (.iaload, 1) := by decide +kernel
theorem dX8_undo_64 : decode cX8_undo 64 = .ok (.iastore, 1) := by decide +kernel
theorem dX8_undo_65 : decode cX8_undo 65 = .ok (.iinc 1 1, 3) := by decide +kernel
theorem dX8_undo_68 : decode cX8_undo 68 = .ok (.goto (-31), 3) := by decide +kernel
theorem dX8_undo_71 : decode cX8_undo 71 = .ok (.aload_n 0, 1) := by decide +kernel
theorem dX8_undo_72 : decode cX8_undo 72 = .ok (.getfield 35, 3) := by decide +kernel
theorem dX8_undo_75 : decode cX8_undo 75 = .ok (.ireturn, 1) := by decide +kernel
theorem dX8_listedWith_0 : decode cX8_listedWith 0 = .ok (.iconst 0, 1) := by decide +kernel
theorem dX8_listedWith_1 : decode cX8_listedWith 1 = .ok (.istore_n 2, 1) := by decide +kernel
theorem dX8_listedWith_2 : decode cX8_listedWith 2 = .ok (.iconst 0, 1) := by decide +kernel
theorem dX8_listedWith_3 : decode cX8_listedWith 3 = .ok (.istore_n 3, 1) := by decide +kernel
theorem dX8_listedWith_4 : decode cX8_listedWith 4 = .ok (.iload_n 3, 1) := by decide +kernel
theorem dX8_listedWith_5 : decode cX8_listedWith 5 = .ok (.aload_n 0, 1) := by decide +kernel
theorem dX8_listedWith_6 : decode cX8_listedWith 6 = .ok (.getfield 7, 3) := by decide +kernel
theorem dX8_listedWith_9 : decode cX8_listedWith 9 = .ok (.bipush 8, 2) := by decide +kernel
theorem dX8_listedWith_11 : decode cX8_listedWith 11 = .ok (.iaload, 1) := by decide +kernel
theorem dX8_listedWith_12 : decode cX8_listedWith 12 = .ok (.if_icmp .ge 34, 3) := by decide +kernel
theorem dX8_listedWith_15 : decode cX8_listedWith 15 = .ok (.iload_n 2, 1) := by decide +kernel
theorem dX8_listedWith_16 : decode cX8_listedWith 16 = .ok (.aload_n 0, 1) := by decide +kernel
theorem dX8_listedWith_17 : decode cX8_listedWith 17 = .ok (.iload_n 3, 1) := by decide +kernel
theorem dX8_listedWith_18 : decode cX8_listedWith 18 = .ok (.invokevirtual 50, 3) := by decide +kernel
theorem dX8_listedWith_21 : decode cX8_listedWith 21 = .ok (.ifCond .eq 16, 3) := by decide +kernel
theorem dX8_listedWith_24 : decode cX8_listedWith 24 = .ok (.aload_n 0, 1) := by decide +kernel
theorem dX8_listedWith_25 : decode cX8_listedWith 25 = .ok (.iload_n 1, 1) := by decide +kernel
theorem dX8_listedWith_26 : decode cX8_listedWith 26 = .ok (.iload_n 3, 1) := by decide +kernel
theorem dX8_listedWith_27 : decode cX8_listedWith 27 = .ok (.invokevirtual 54, 3) := by decide +kernel
theorem dX8_listedWith_30 : decode cX8_listedWith 30 = .ok (.ifCond .eq 7, 3) := by decide +kernel
theorem dX8_listedWith_33 : decode cX8_listedWith 33 = .ok (.iconst 1, 1) := by decide +kernel
theorem dX8_listedWith_34 : decode cX8_listedWith 34 = .ok (.goto 4, 3) := by decide +kernel
theorem dX8_listedWith_37 : decode cX8_listedWith 37 = .ok (.iconst 0, 1) := by decide +kernel
theorem dX8_listedWith_38 : decode cX8_listedWith 38 = .ok (.iadd, 1) := by decide +kernel
theorem dX8_listedWith_39 : decode cX8_listedWith 39 = .ok (.istore_n 2, 1) := by decide +kernel
theorem dX8_listedWith_40 : decode cX8_listedWith 40 = .ok (.iinc 3 1, 3) := by decide +kernel
theorem dX8_listedWith_43 : decode cX8_listedWith 43 = .ok (.goto (-39), 3) := by decide +kernel
theorem dX8_listedWith_46 : decode cX8_listedWith 46 = .ok (.iload_n 2, 1) := by decide +kernel
theorem dX8_listedWith_47 : decode cX8_listedWith 47 = .ok (.ireturn, 1) := by decide +kernel
theorem dX8_personNow_0 : decode cX8_personNow 0 = .ok (.iload_n 2, 1) := by decide +kernel
theorem dX8_personNow_1 : decode cX8_personNow 1 = .ok (.tableswitch 105 0 6 #[43, 53, 63, 73, 83, 93, 99], 43) := by decide +kernel
theorem dX8_personNow_44 : decode cX8_personNow 44 = .ok (.aload_n 0, 1) := by decide +kernel
theorem dX8_personNow_45 : decode cX8_personNow 45 = .ok (.getfield 7, 3) := by decide +kernel
theorem dX8_personNow_48 : decode cX8_personNow 48 = .ok (.bipush 13, 2) := by decide +kernel
theorem dX8_personNow_50 : decode cX8_personNow 50 = .ok (.iload_n 1, 1) := by decide +kernel
theorem dX8_personNow_51 : decode cX8_personNow 51 = .ok (.iadd, 1) := by decide +kernel
theorem dX8_personNow_52 : decode cX8_personNow 52 = .ok (.iaload, 1) := by decide +kernel
theorem dX8_personNow_53 : decode cX8_personNow 53 = .ok (.ireturn, 1) := by decide +kernel
theorem dX8_personNow_54 : decode cX8_personNow 54 = .ok (.aload_n 0, 1) := by decide +kernel
theorem dX8_personNow_55 : decode cX8_personNow 55 = .ok (.getfield 7, 3) := by decide +kernel
theorem dX8_personNow_58 : decode cX8_personNow 58 = .ok (.bipush 23, 2) := by decide +kernel
theorem dX8_personNow_60 : decode cX8_personNow 60 = .ok (.iload_n 1, 1) := by decide +kernel
theorem dX8_personNow_61 : decode cX8_personNow 61 = .ok (.iadd, 1) := by decide +kernel
theorem dX8_personNow_62 : decode cX8_personNow 62 = .ok (.iaload, 1) := by decide +kernel
theorem dX8_personNow_63 : decode cX8_personNow 63 = .ok (.ireturn, 1) := by decide +kernel
theorem dX8_personNow_64 : decode cX8_personNow 64 = .ok (.aload_n 0, 1) := by decide +kernel
theorem dX8_personNow_65 : decode cX8_personNow 65 = .ok (.getfield 7, 3) := by decide +kernel
theorem dX8_personNow_68 : decode cX8_personNow 68 = .ok (.bipush 33, 2) := by decide +kernel
theorem dX8_personNow_70 : decode cX8_personNow 70 = .ok (.iload_n 1, 1) := by decide +kernel
theorem dX8_personNow_71 : decode cX8_personNow 71 = .ok (.iadd, 1) := by decide +kernel
theorem dX8_personNow_72 : decode cX8_personNow 72 = .ok (.iaload, 1) := by decide +kernel
theorem dX8_personNow_73 : decode cX8_personNow 73 = .ok (.ireturn, 1) := by decide +kernel
theorem dX8_personNow_74 : decode cX8_personNow 74 = .ok (.aload_n 0, 1) := by decide +kernel
theorem dX8_personNow_75 : decode cX8_personNow 75 = .ok (.getfield 7, 3) := by decide +kernel
theorem dX8_personNow_78 : decode cX8_personNow 78 = .ok (.bipush 43, 2) := by decide +kernel
theorem dX8_personNow_80 : decode cX8_personNow 80 = .ok (.iload_n 1, 1) := by decide +kernel
theorem dX8_personNow_81 : decode cX8_personNow 81 = .ok (.iadd, 1) := by decide +kernel
theorem dX8_personNow_82 : decode cX8_personNow 82 = .ok (.iaload, 1) := by decide +kernel
theorem dX8_personNow_83 : decode cX8_personNow 83 = .ok (.ireturn, 1) := by decide +kernel
theorem dX8_personNow_84 : decode cX8_personNow 84 = .ok (.aload_n 0, 1) := by decide +kernel
theorem dX8_personNow_85 : decode cX8_personNow 85 = .ok (.getfield 7, 3) := by decide +kernel
theorem dX8_personNow_88 : decode cX8_personNow 88 = .ok (.bipush 53, 2) := by decide +kernel
theorem dX8_personNow_90 : decode cX8_personNow 90 = .ok (.iload_n 1, 1) := by decide +kernel
theorem dX8_personNow_91 : decode cX8_personNow 91 = .ok (.iadd, 1) := by decide +kernel
theorem dX8_personNow_92 : decode cX8_personNow 92 = .ok (.iaload, 1) := by decide +kernel
theorem dX8_personNow_93 : decode cX8_personNow 93 = .ok (.ireturn, 1) := by decide +kernel
theorem dX8_personNow_94 : decode cX8_personNow 94 = .ok (.aload_n 0, 1) := by decide +kernel
theorem dX8_personNow_95 : decode cX8_personNow 95 = .ok (.iload_n 1, 1) := by decide +kernel
theorem dX8_personNow_96 : decode cX8_personNow 96 = .ok (.invokevirtual 180, 3) := by decide +kernel
theorem dX8_personNow_99 : decode cX8_personNow 99 = .ok (.ireturn, 1) := by decide +kernel
theorem dX8_personNow_100 : decode cX8_personNow 100 = .ok (.aload_n 0, 1) := by decide +kernel
theorem dX8_personNow_101 : decode cX8_personNow 101 = .ok (.iload_n 1, 1) := by decide +kernel
theorem dX8_personNow_102 : decode cX8_personNow 102 = .ok (.invokevirtual 134, 3) := by decide +kernel
theorem dX8_personNow_105 : decode cX8_personNow 105 = .ok (.ireturn, 1) := by decide +kernel
theorem dX8_personNow_106 : decode cX8_personNow 106 = .ok (.aload_n 0, 1) := by decide +kernel
theorem dX8_personNow_107 : decode cX8_personNow 107 = .ok (.getfield 7, 3) := by decide +kernel
theorem dX8_personNow_110 : decode cX8_personNow 110 = .ok (.bipush 63, 2) := by decide +kernel
theorem dX8_personNow_112 : decode cX8_personNow 112 = .ok (.iload_n 1, 1) := by decide +kernel
theorem dX8_personNow_113 : decode cX8_personNow 113 = .ok (.iadd, 1) := by decide +kernel
theorem dX8_personNow_114 : decode cX8_personNow 114 = .ok (.iaload, 1) := by decide +kernel
theorem dX8_personNow_115 : decode cX8_personNow 115 = .ok (.ireturn, 1) := by decide +kernel
theorem dX8_interpreter_0 : decode cX8_interpreter 0 = .ok (.aload_n 0, 1) := by decide +kernel
theorem dX8_interpreter_1 : decode cX8_interpreter 1 = .ok (.aload_n 0, 1) := by decide +kernel
theorem dX8_interpreter_2 : decode cX8_interpreter 2 = .ok (.iload_n 1, 1) := by decide +kernel
theorem dX8_interpreter_3 : decode cX8_interpreter 3 = .ok (.invokevirtual 82, 3) := by decide +kernel
theorem dX8_interpreter_6 : decode cX8_interpreter 6 = .ok (.ifCond .ne 7, 3) := by decide +kernel
theorem dX8_interpreter_9 : decode cX8_interpreter 9 = .ok (.iconst 1, 1) := by decide +kernel
theorem dX8_interpreter_10 : decode cX8_interpreter 10 = .ok (.goto 18, 3) := by decide +kernel
theorem dX8_interpreter_13 : decode cX8_interpreter 13 = .ok (.iload_n 2, 1) := by decide +kernel
theorem dX8_interpreter_14 : decode cX8_interpreter 14 = .ok (.iconst 0, 1) := by decide +kernel
theorem dX8_interpreter_15 : decode cX8_interpreter 15 = .ok (.bipush 7, 2) := by decide +kernel
theorem dX8_interpreter_17 : decode cX8_interpreter 17 = .ok (.invokestatic 38, 3) := by decide +kernel
theorem dX8_interpreter_20 : decode cX8_interpreter 20 = .ok (.ifCond .eq 7, 3) := by decide +kernel
theorem dX8_interpreter_23 : decode cX8_interpreter 23 = .ok (.iconst 0, 1) := by decide +kernel
theorem dX8_interpreter_24 : decode cX8_interpreter 24 = .ok (.goto 4, 3) := by decide +kernel
theorem dX8_interpreter_27 : decode cX8_interpreter 27 = .ok (.iconst 2, 1) := by decide +kernel
theorem dX8_interpreter_28 : decode cX8_interpreter 28 = .ok (.putfield 31, 3) := by decide +kernel
theorem dX8_interpreter_31 : decode cX8_interpreter 31 = .ok (.aload_n 0, 1) := by decide +kernel
theorem dX8_interpreter_32 : decode cX8_interpreter 32 = .ok (.getfield 31, 3) := by decide +kernel
theorem dX8_interpreter_35 : decode cX8_interpreter 35 = .ok (.ifCond .le 7, 3) := by decide +kernel
theorem dX8_interpreter_38 : decode cX8_interpreter 38 = .ok (.iconst 0, 1) := by decide +kernel
theorem dX8_interpreter_39 : decode cX8_interpreter 39 = .ok (.goto 9, 3) := by decide +kernel
theorem dX8_interpreter_42 : decode cX8_interpreter 42 = .ok (.aload_n 0, 1) := by decide +kernel
theorem dX8_interpreter_43 : decode cX8_interpreter 43 = .ok (.iload_n 1, 1) := by decide +kernel
theorem dX8_interpreter_44 : decode cX8_interpreter 44 = .ok (.iload_n 2, 1) := by decide +kernel
theorem dX8_interpreter_45 : decode cX8_interpreter 45 = .ok (.invokevirtual 183, 3) := by decide +kernel
theorem dX8_interpreter_48 : decode cX8_interpreter 48 = .ok (.ireturn, 1) := by decide +kernel
theorem dX8_clashes_0 : decode cX8_clashes 0 = .ok (.iconst 0, 1) := by decide +kernel
theorem dX8_clashes_1 : decode cX8_clashes 1 = .ok (.istore_n 2, 1) := by decide +kernel
theorem dX8_clashes_2 : decode cX8_clashes 2 = .ok (.iconst 0, 1) := by decide +kernel
theorem dX8_clashes_3 : decode cX8_clashes 3 = .ok (.istore_n 3, 1) := by decide +kernel
theorem dX8_clashes_4 : decode cX8_clashes 4 = .ok (.iload_n 3, 1) := by decide +kernel
theorem dX8_clashes_5 : decode cX8_clashes 5 = .ok (.aload_n 0, 1) := by decide +kernel
theorem dX8_clashes_6 : decode cX8_clashes 6 = .ok (.getfield 7, 3) := by decide +kernel
theorem dX8_clashes_9 : decode cX8_clashes 9 = .ok (.bipush 8, 2) := by decide +kernel
theorem dX8_clashes_11 : decode cX8_clashes 11 = .ok (.iaload, 1) := by decide +kernel
theorem dX8_clashes_12 : decode cX8_clashes 12 = .ok (.if_icmp .ge 47, 3) := by decide +kernel
theorem dX8_clashes_15 : decode cX8_clashes 15 = .ok (.iload_n 2, 1) := by decide +kernel
theorem dX8_clashes_16 : decode cX8_clashes 16 = .ok (.iload_n 3, 1) := by decide +kernel
theorem dX8_clashes_17 : decode cX8_clashes 17 = .ok (.iload_n 1, 1) := by decide +kernel
theorem dX8_clashes_18 : decode cX8_clashes 18 = .ok (.if_icmp .eq 32, 3) := by decide +kernel
theorem dX8_clashes_21 : decode cX8_clashes 21 = .ok (.aload_n 0, 1) := by decide +kernel
theorem dX8_clashes_22 : decode cX8_clashes 22 = .ok (.iload_n 3, 1) := by decide +kernel
theorem dX8_clashes_23 : decode cX8_clashes 23 = .ok (.invokevirtual 50, 3) := by decide +kernel
theorem dX8_clashes_26 : decode cX8_clashes 26 = .ok (.ifCond .eq 24, 3) := by decide +kernel
theorem dX8_clashes_29 : decode cX8_clashes 29 = .ok (.aload_n 0, 1) := by decide +kernel
theorem dX8_clashes_30 : decode cX8_clashes 30 = .ok (.iload_n 1, 1) := by decide +kernel
theorem dX8_clashes_31 : decode cX8_clashes 31 = .ok (.invokevirtual 50, 3) := by decide +kernel
theorem dX8_clashes_34 : decode cX8_clashes 34 = .ok (.ifCond .eq 16, 3) := by decide +kernel
theorem dX8_clashes_37 : decode cX8_clashes 37 = .ok (.aload_n 0, 1) := by decide +kernel
theorem dX8_clashes_38 : decode cX8_clashes 38 = .ok (.iload_n 3, 1) := by decide +kernel
theorem dX8_clashes_39 : decode cX8_clashes 39 = .ok (.iload_n 1, 1) := by decide +kernel
theorem dX8_clashes_40 : decode cX8_clashes 40 = .ok (.invokevirtual 58, 3) := by decide +kernel
theorem dX8_clashes_43 : decode cX8_clashes 43 = .ok (.ifCond .eq 7, 3) := by decide +kernel
theorem dX8_clashes_46 : decode cX8_clashes 46 = .ok (.iconst 1, 1) := by decide +kernel
theorem dX8_clashes_47 : decode cX8_clashes 47 = .ok (.goto 4, 3) := by decide +kernel
theorem dX8_clashes_50 : decode cX8_clashes 50 = .ok (.iconst 0, 1) := by decide +kernel
theorem dX8_clashes_51 : decode cX8_clashes 51 = .ok (.iadd, 1) := by decide +kernel
theorem dX8_clashes_52 : decode cX8_clashes 52 = .ok (.istore_n 2, 1) := by decide +kernel
theorem dX8_clashes_53 : decode cX8_clashes 53 = .ok (.iinc 3 1, 3) := by decide +kernel
theorem dX8_clashes_56 : decode cX8_clashes 56 = .ok (.goto (-52), 3) := by decide +kernel
theorem dX8_clashes_59 : decode cX8_clashes 59 = .ok (.iload_n 2, 1) := by decide +kernel
theorem dX8_clashes_60 : decode cX8_clashes 60 = .ok (.ireturn, 1) := by decide +kernel
theorem dX8_hearingNow_0 : decode cX8_hearingNow 0 = .ok (.iload_n 2, 1) := by decide +kernel
theorem dX8_hearingNow_1 : decode cX8_hearingNow 1 = .ok (.tableswitch 48 9 11 #[27, 34, 42], 27) := by decide +kernel
theorem dX8_hearingNow_28 : decode cX8_hearingNow 28 = .ok (.aload_n 0, 1) := by decide +kernel
theorem dX8_hearingNow_29 : decode cX8_hearingNow 29 = .ok (.iload_n 1, 1) := by decide +kernel
theorem dX8_hearingNow_30 : decode cX8_hearingNow 30 = .ok (.iconst 2, 1) := by decide +kernel
theorem dX8_hearingNow_31 : decode cX8_hearingNow 31 = .ok (.invokevirtual 65, 3) := by decide +kernel
theorem dX8_hearingNow_34 : decode cX8_hearingNow 34 = .ok (.ireturn, 1) := by decide +kernel
theorem dX8_hearingNow_35 : decode cX8_hearingNow 35 = .ok (.aload_n 0, 1) := by decide +kernel
theorem dX8_hearingNow_36 : decode cX8_hearingNow 36 = .ok (.iload_n 1, 1) := by decide +kernel
theorem dX8_hearingNow_37 : decode cX8_hearingNow 37 = .ok (.bipush 9, 2) := by decide +kernel
theorem dX8_hearingNow_39 : decode cX8_hearingNow 39 = .ok (.invokevirtual 42, 3) := by decide +kernel
theorem dX8_hearingNow_42 : decode cX8_hearingNow 42 = .ok (.ireturn, 1) := by decide +kernel
theorem dX8_hearingNow_43 : decode cX8_hearingNow 43 = .ok (.aload_n 0, 1) := by decide +kernel
theorem dX8_hearingNow_44 : decode cX8_hearingNow 44 = .ok (.iload_n 1, 1) := by decide +kernel
theorem dX8_hearingNow_45 : decode cX8_hearingNow 45 = .ok (.invokevirtual 186, 3) := by decide +kernel
theorem dX8_hearingNow_48 : decode cX8_hearingNow 48 = .ok (.ireturn, 1) := by decide +kernel
theorem dX8_hearingNow_49 : decode cX8_hearingNow 49 = .ok (.aload_n 0, 1) := by decide +kernel
theorem dX8_hearingNow_50 : decode cX8_hearingNow 50 = .ok (.iload_n 1, 1) := by decide +kernel
theorem dX8_hearingNow_51 : decode cX8_hearingNow 51 = .ok (.iload_n 2, 1) := by decide +kernel
theorem dX8_hearingNow_52 : decode cX8_hearingNow 52 = .ok (.invokevirtual 42, 3) := by decide +kernel
theorem dX8_hearingNow_55 : decode cX8_hearingNow 55 = .ok (.ireturn, 1) := by decide +kernel
theorem dX8_hearing_0 : decode cX8_hearing 0 = .ok (.aload_n 0, 1) := by decide +kernel
theorem dX8_hearing_1 : decode cX8_hearing 1 = .ok (.aload_n 0, 1) := by decide +kernel
theorem dX8_hearing_2 : decode cX8_hearing 2 = .ok (.iload_n 1, 1) := by decide +kernel
theorem dX8_hearing_3 : decode cX8_hearing 3 = .ok (.invokevirtual 109, 3) := by decide +kernel
theorem dX8_hearing_6 : decode cX8_hearing 6 = .ok (.ifCond .ne 7, 3) := by decide +kernel
theorem dX8_hearing_9 : decode cX8_hearing 9 = .ok (.iconst 1, 1) := by decide +kernel
theorem dX8_hearing_10 : decode cX8_hearing 10 = .ok (.goto 18, 3) := by decide +kernel
theorem dX8_hearing_13 : decode cX8_hearing 13 = .ok (.iload_n 2, 1) := by decide +kernel
theorem dX8_hearing_14 : decode cX8_hearing 14 = .ok (.iconst 0, 1) := by decide +kernel
theorem dX8_hearing_15 : decode cX8_hearing 15 = .ok (.bipush 11, 2) := by decide +kernel
theorem dX8_hearing_17 : decode cX8_hearing 17 = .ok (.invokestatic 38, 3) := by decide +kernel
theorem dX8_hearing_20 : decode cX8_hearing 20 = .ok (.ifCond .eq 7, 3) := by decide +kernel
theorem dX8_hearing_23 : decode cX8_hearing 23 = .ok (.iconst 0, 1) := by decide +kernel
theorem dX8_hearing_24 : decode cX8_hearing 24 = .ok (.goto 4, 3) := by decide +kernel
theorem dX8_hearing_27 : decode cX8_hearing 27 = .ok (.iconst 2, 1) := by decide +kernel
theorem dX8_hearing_28 : decode cX8_hearing 28 = .ok (.putfield 31, 3) := by decide +kernel
theorem dX8_hearing_31 : decode cX8_hearing 31 = .ok (.aload_n 0, 1) := by decide +kernel
theorem dX8_hearing_32 : decode cX8_hearing 32 = .ok (.getfield 31, 3) := by decide +kernel
theorem dX8_hearing_35 : decode cX8_hearing 35 = .ok (.ifCond .le 7, 3) := by decide +kernel
theorem dX8_hearing_38 : decode cX8_hearing 38 = .ok (.iconst 0, 1) := by decide +kernel
theorem dX8_hearing_39 : decode cX8_hearing 39 = .ok (.goto 9, 3) := by decide +kernel
theorem dX8_hearing_42 : decode cX8_hearing 42 = .ok (.aload_n 0, 1) := by decide +kernel
theorem dX8_hearing_43 : decode cX8_hearing 43 = .ok (.iload_n 1, 1) := by decide +kernel
theorem dX8_hearing_44 : decode cX8_hearing 44 = .ok (.iload_n 2, 1) := by decide +kernel
theorem dX8_hearing_45 : decode cX8_hearing 45 = .ok (.invokevirtual 189, 3) := by decide +kernel
theorem dX8_hearing_48 : decode cX8_hearing 48 = .ok (.ireturn, 1) := by decide +kernel
theorem dX8_hearingsIn_0 : decode cX8_hearingsIn 0 = .ok (.iconst 0, 1) := by decide +kernel
theorem dX8_hearingsIn_1 : decode cX8_hearingsIn 1 = .ok (.istore_n 3, 1) := by decide +kernel
theorem dX8_hearingsIn_2 : decode cX8_hearingsIn 2 = .ok (.iconst 0, 1) := by decide +kernel
theorem dX8_hearingsIn_3 : decode cX8_hearingsIn 3 = .ok (.istore 4, 2) := by decide +kernel
theorem dX8_hearingsIn_5 : decode cX8_hearingsIn 5 = .ok (.iload 4, 2) := by decide +kernel
theorem dX8_hearingsIn_7 : decode cX8_hearingsIn 7 = .ok (.aload_n 0, 1) := by decide +kernel
theorem dX8_hearingsIn_8 : decode cX8_hearingsIn 8 = .ok (.getfield 7, 3) := by decide +kernel
theorem dX8_hearingsIn_11 : decode cX8_hearingsIn 11 = .ok (.bipush 8, 2) := by decide +kernel
theorem dX8_hearingsIn_13 : decode cX8_hearingsIn 13 = .ok (.iaload, 1) := by decide +kernel
theorem dX8_hearingsIn_14 : decode cX8_hearingsIn 14 = .ok (.if_icmp .ge 42, 3) := by decide +kernel
theorem dX8_hearingsIn_17 : decode cX8_hearingsIn 17 = .ok (.iload_n 3, 1) := by decide +kernel
theorem dX8_hearingsIn_18 : decode cX8_hearingsIn 18 = .ok (.aload_n 0, 1) := by decide +kernel
theorem dX8_hearingsIn_19 : decode cX8_hearingsIn 19 = .ok (.iload 4, 2) := by decide +kernel
theorem dX8_hearingsIn_21 : decode cX8_hearingsIn 21 = .ok (.iconst 4, 1) := by decide +kernel
theorem dX8_hearingsIn_22 : decode cX8_hearingsIn 22 = .ok (.invokevirtual 42, 3) := by decide +kernel
theorem dX8_hearingsIn_25 : decode cX8_hearingsIn 25 = .ok (.iload_n 1, 1) := by decide +kernel
theorem dX8_hearingsIn_26 : decode cX8_hearingsIn 26 = .ok (.if_icmp .ne 21, 3) := by decide +kernel
theorem dX8_hearingsIn_29 : decode cX8_hearingsIn 29 = .ok (.iload_n 2, 1) := by decide +kernel
theorem dX8_hearingsIn_30 : decode cX8_hearingsIn 30 = .ok (.ifCond .eq 13, 3) := by decide +kernel
theorem dX8_hearingsIn_33 : decode cX8_hearingsIn 33 = .ok (.aload_n 0, 1) := by decide +kernel
theorem dX8_hearingsIn_34 : decode cX8_hearingsIn 34 = .ok (.iload 4, 2) := by decide +kernel
theorem dX8_hearingsIn_36 : decode cX8_hearingsIn 36 = .ok (.iconst 5, 1) := by decide +kernel
theorem dX8_hearingsIn_37 : decode cX8_hearingsIn 37 = .ok (.invokevirtual 42, 3) := by decide +kernel
theorem dX8_hearingsIn_40 : decode cX8_hearingsIn 40 = .ok (.ifCond .le 7, 3) := by decide +kernel
theorem dX8_hearingsIn_43 : decode cX8_hearingsIn 43 = .ok (.iconst 1, 1) := by decide +kernel
theorem dX8_hearingsIn_44 : decode cX8_hearingsIn 44 = .ok (.goto 4, 3) := by decide +kernel
theorem dX8_hearingsIn_47 : decode cX8_hearingsIn 47 = .ok (.iconst 0, 1) := by decide +kernel
theorem dX8_hearingsIn_48 : decode cX8_hearingsIn 48 = .ok (.iadd, 1) := by decide +kernel
theorem dX8_hearingsIn_49 : decode cX8_hearingsIn 49 = .ok (.istore_n 3, 1) := by decide +kernel
theorem dX8_hearingsIn_50 : decode cX8_hearingsIn 50 = .ok (.iinc 4 1, 3) := by decide +kernel
theorem dX8_hearingsIn_53 : decode cX8_hearingsIn 53 = .ok (.goto (-48), 3) := by decide +kernel
theorem dX8_hearingsIn_56 : decode cX8_hearingsIn 56 = .ok (.iload_n 3, 1) := by decide +kernel
theorem dX8_hearingsIn_57 : decode cX8_hearingsIn 57 = .ok (.ireturn, 1) := by decide +kernel
theorem dX8_working_0 : decode cX8_working 0 = .ok (.iconst 0, 1) := by decide +kernel
theorem dX8_working_1 : decode cX8_working 1 = .ok (.istore_n 1, 1) := by decide +kernel
theorem dX8_working_2 : decode cX8_working 2 = .ok (.iconst 0, 1) := by decide +kernel
theorem dX8_working_3 : decode cX8_working 3 = .ok (.istore_n 2, 1) := by decide +kernel
theorem dX8_working_4 : decode cX8_working 4 = .ok (.iload_n 2, 1) := by decide +kernel
theorem dX8_working_5 : decode cX8_working 5 = .ok (.aload_n 0, 1) := by decide +kernel
theorem dX8_working_6 : decode cX8_working 6 = .ok (.getfield 7, 3) := by decide +kernel
theorem dX8_working_9 : decode cX8_working 9 = .ok (.bipush 7, 2) := by decide +kernel
theorem dX8_working_11 : decode cX8_working 11 = .ok (.iaload, 1) := by decide +kernel
theorem dX8_working_12 : decode cX8_working 12 = .ok (.if_icmp .ge 26, 3) := by decide +kernel
theorem dX8_working_15 : decode cX8_working 15 = .ok (.iload_n 1, 1) := by decide +kernel
theorem dX8_working_16 : decode cX8_working 16 = .ok (.aload_n 0, 1) := by decide +kernel
theorem dX8_working_17 : decode cX8_working 17 = .ok (.iload_n 2, 1) := by decide +kernel
theorem dX8_working_18 : decode cX8_working 18 = .ok (.invokevirtual 134, 3) := by decide +kernel
theorem dX8_working_21 : decode cX8_working 21 = .ok (.iconst (-1), 1) := by decide +kernel
theorem dX8_working_22 : decode cX8_working 22 = .ok (.if_icmp .ne 7, 3) := by decide +kernel
theorem dX8_working_25 : decode cX8_working 25 = .ok (.iconst 0, 1) := by decide +kernel
theorem dX8_working_26 : decode cX8_working 26 = .ok (.goto 4, 3) := by decide +kernel
theorem dX8_working_29 : decode cX8_working 29 = .ok (.iconst 1, 1) := by decide +kernel
theorem dX8_working_30 : decode cX8_working 30 = .ok (.iadd, 1) := by decide +kernel
theorem dX8_working_31 : decode cX8_working 31 = .ok (.istore_n 1, 1) := by decide +kernel
theorem dX8_working_32 : decode cX8_working 32 = .ok (.iinc 2 1, 3) := by decide +kernel
theorem dX8_working_35 : decode cX8_working 35 = .ok (.goto (-31), 3) := by decide +kernel
theorem dX8_working_38 : decode cX8_working 38 = .ok (.iload_n 1, 1) := by decide +kernel
theorem dX8_working_39 : decode cX8_working 39 = .ok (.ireturn, 1) := by decide +kernel
theorem dX8_counted_0 : decode cX8_counted 0 = .ok (.iload_n 1, 1) := by decide +kernel
theorem dX8_counted_1 : decode cX8_counted 1 = .ok (.tableswitch 114 0 11 #[63, 63, 63, 73, 80, 87, 87, 87, 96, 96, 96, 109], 63) := by decide +kernel
theorem dX8_counted_64 : decode cX8_counted 64 = .ok (.aload_n 0, 1) := by decide +kernel
theorem dX8_counted_65 : decode cX8_counted 65 = .ok (.getfield 7, 3) := by decide +kernel
theorem dX8_counted_68 : decode cX8_counted 68 = .ok (.bipush 7, 2) := by decide +kernel
theorem dX8_counted_70 : decode cX8_counted 70 = .ok (.iload_n 1, 1) := by decide +kernel
theorem dX8_counted_71 : decode cX8_counted 71 = .ok (.iadd, 1) := by decide +kernel
theorem dX8_counted_72 : decode cX8_counted 72 = .ok (.iaload, 1) := by decide +kernel
theorem dX8_counted_73 : decode cX8_counted 73 = .ok (.ireturn, 1) := by decide +kernel
theorem dX8_counted_74 : decode cX8_counted 74 = .ok (.aload_n 0, 1) := by decide +kernel
theorem dX8_counted_75 : decode cX8_counted 75 = .ok (.iconst 0, 1) := by decide +kernel
theorem dX8_counted_76 : decode cX8_counted 76 = .ok (.iconst 0, 1) := by decide +kernel
theorem dX8_counted_77 : decode cX8_counted 77 = .ok (.invokevirtual 192, 3) := by decide +kernel
theorem dX8_counted_80 : decode cX8_counted 80 = .ok (.ireturn, 1) := by decide +kernel
theorem dX8_counted_81 : decode cX8_counted 81 = .ok (.aload_n 0, 1) := by decide +kernel
theorem dX8_counted_82 : decode cX8_counted 82 = .ok (.iconst 0, 1) := by decide +kernel
theorem dX8_counted_83 : decode cX8_counted 83 = .ok (.iconst 1, 1) := by decide +kernel
theorem dX8_counted_84 : decode cX8_counted 84 = .ok (.invokevirtual 192, 3) := by decide +kernel
theorem dX8_counted_87 : decode cX8_counted 87 = .ok (.ireturn, 1) := by decide +kernel
theorem dX8_counted_88 : decode cX8_counted 88 = .ok (.aload_n 0, 1) := by decide +kernel
theorem dX8_counted_89 : decode cX8_counted 89 = .ok (.iload_n 1, 1) := by decide +kernel
theorem dX8_counted_90 : decode cX8_counted 90 = .ok (.iconst 4, 1) := by decide +kernel
theorem dX8_counted_91 : decode cX8_counted 91 = .ok (.isub, 1) := by decide +kernel
theorem dX8_counted_92 : decode cX8_counted 92 = .ok (.iconst 0, 1) := by decide +kernel
theorem dX8_counted_93 : decode cX8_counted 93 = .ok (.invokevirtual 192, 3) := by decide +kernel
theorem dX8_counted_96 : decode cX8_counted 96 = .ok (.ireturn, 1) := by decide +kernel
theorem dX8_counted_97 : decode cX8_counted 97 = .ok (.aload_n 0, 1) := by decide +kernel
theorem dX8_counted_98 : decode cX8_counted 98 = .ok (.getfield 7, 3) := by decide +kernel
theorem dX8_counted_101 : decode cX8_counted 101 = .ok (.bipush 10, 2) := by decide +kernel
theorem dX8_counted_103 : decode cX8_counted 103 = .ok (.iload_n 1, 1) := by decide +kernel
theorem dX8_counted_104 : decode cX8_counted 104 = .ok (.iadd, 1) := by decide +kernel
theorem dX8_counted_105 : decode cX8_counted 105 = .ok (.bipush 8, 2) := by decide +kernel
theorem dX8_counted_107 : decode cX8_counted 107 = .ok (.isub, 1) := by decide +kernel
theorem dX8_counted_108 : decode cX8_counted 108 = .ok (.iaload, 1) := by decide +kernel
theorem dX8_counted_109 : decode cX8_counted 109 = .ok (.ireturn, 1) := by decide +kernel
theorem dX8_counted_110 : decode cX8_counted 110 = .ok (.aload_n 0, 1) := by decide +kernel
theorem dX8_counted_111 : decode cX8_counted 111 = .ok (.invokevirtual 196, 3) := by decide +kernel
theorem dX8_counted_114 : decode cX8_counted 114 = .ok (.ireturn, 1) := by decide +kernel
theorem dX8_counted_115 : decode cX8_counted 115 = .ok (.aload_n 0, 1) := by decide +kernel
theorem dX8_counted_116 : decode cX8_counted 116 = .ok (.getfield 35, 3) := by decide +kernel
theorem dX8_counted_119 : decode cX8_counted 119 = .ok (.ireturn, 1) := by decide +kernel
theorem dX8_count_0 : decode cX8_count 0 = .ok (.aload_n 0, 1) := by decide +kernel
theorem dX8_count_1 : decode cX8_count 1 = .ok (.iload_n 1, 1) := by decide +kernel
theorem dX8_count_2 : decode cX8_count 2 = .ok (.iconst 0, 1) := by decide +kernel
theorem dX8_count_3 : decode cX8_count 3 = .ok (.bipush 12, 2) := by decide +kernel
theorem dX8_count_5 : decode cX8_count 5 = .ok (.invokestatic 38, 3) := by decide +kernel
theorem dX8_count_8 : decode cX8_count 8 = .ok (.ifCond .eq 7, 3) := by decide +kernel
theorem dX8_count_11 : decode cX8_count 11 = .ok (.iconst 0, 1) := by decide +kernel
theorem dX8_count_12 : decode cX8_count 12 = .ok (.goto 4, 3) := by decide +kernel
theorem dX8_count_15 : decode cX8_count 15 = .ok (.iconst 1, 1) := by decide +kernel
theorem dX8_count_16 : decode cX8_count 16 = .ok (.putfield 31, 3) := by decide +kernel
theorem dX8_count_19 : decode cX8_count 19 = .ok (.aload_n 0, 1) := by decide +kernel
theorem dX8_count_20 : decode cX8_count 20 = .ok (.getfield 31, 3) := by decide +kernel
theorem dX8_count_23 : decode cX8_count 23 = .ok (.ifCond .le 7, 3) := by decide +kernel
theorem dX8_count_26 : decode cX8_count 26 = .ok (.iconst 0, 1) := by decide +kernel
theorem dX8_count_27 : decode cX8_count 27 = .ok (.goto 8, 3) := by decide +kernel
theorem dX8_count_30 : decode cX8_count 30 = .ok (.aload_n 0, 1) := by decide +kernel
theorem dX8_count_31 : decode cX8_count 31 = .ok (.iload_n 1, 1) := by decide +kernel
theorem dX8_count_32 : decode cX8_count 32 = .ok (.invokevirtual 199, 3) := by decide +kernel
theorem dX8_count_35 : decode cX8_count 35 = .ok (.ireturn, 1) := by decide +kernel
theorem dX8_setting_0 : decode cX8_setting 0 = .ok (.aload_n 0, 1) := by decide +kernel
theorem dX8_setting_1 : decode cX8_setting 1 = .ok (.iload_n 1, 1) := by decide +kernel
theorem dX8_setting_2 : decode cX8_setting 2 = .ok (.invokestatic 85, 3) := by decide +kernel
theorem dX8_setting_5 : decode cX8_setting 5 = .ok (.ifCond .eq 7, 3) := by decide +kernel
theorem dX8_setting_8 : decode cX8_setting 8 = .ok (.iconst 0, 1) := by decide +kernel
theorem dX8_setting_9 : decode cX8_setting 9 = .ok (.goto 4, 3) := by decide +kernel
theorem dX8_setting_12 : decode cX8_setting 12 = .ok (.iconst 1, 1) := by decide +kernel
theorem dX8_setting_13 : decode cX8_setting 13 = .ok (.putfield 31, 3) := by decide +kernel
theorem dX8_setting_16 : decode cX8_setting 16 = .ok (.aload_n 0, 1) := by decide +kernel
theorem dX8_setting_17 : decode cX8_setting 17 = .ok (.getfield 31, 3) := by decide +kernel
theorem dX8_setting_20 : decode cX8_setting 20 = .ok (.ifCond .le 7, 3) := by decide +kernel
theorem dX8_setting_23 : decode cX8_setting 23 = .ok (.iconst 0, 1) := by decide +kernel
theorem dX8_setting_24 : decode cX8_setting 24 = .ok (.goto 11, 3) := by decide +kernel
theorem dX8_setting_27 : decode cX8_setting 27 = .ok (.aload_n 0, 1) := by decide +kernel
theorem dX8_setting_28 : decode cX8_setting 28 = .ok (.getfield 7, 3) := by decide +kernel
theorem dX8_setting_31 : decode cX8_setting 31 = .ok (.iconst 0, 1) := by decide +kernel
theorem dX8_setting_32 : decode cX8_setting 32 = .ok (.iload_n 1, 1) := by decide +kernel
theorem dX8_setting_33 : decode cX8_setting 33 = .ok (.iadd, 1) := by decide +kernel
theorem dX8_setting_34 : decode cX8_setting 34 = .ok (.iaload, 1) := by decide +kernel
theorem dX8_setting_35 : decode cX8_setting 35 = .ok (.ireturn, 1) := by decide +kernel
theorem dX8_whyNot_0 : decode cX8_whyNot 0 = .ok (.aload_n 0, 1) := by decide +kernel
theorem dX8_whyNot_1 : decode cX8_whyNot 1 = .ok (.aload_n 0, 1) := by decide +kernel
theorem dX8_whyNot_2 : decode cX8_whyNot 2 = .ok (.iload_n 1, 1) := by decide +kernel
theorem dX8_whyNot_3 : decode cX8_whyNot 3 = .ok (.iload_n 2, 1) := by decide +kernel
theorem dX8_whyNot_4 : decode cX8_whyNot 4 = .ok (.iload_n 3, 1) := by decide +kernel
theorem dX8_whyNot_5 : decode cX8_whyNot 5 = .ok (.iload 4, 2) := by decide +kernel
theorem dX8_whyNot_7 : decode cX8_whyNot 7 = .ok (.invokevirtual 115, 3) := by decide +kernel
theorem dX8_whyNot_10 : decode cX8_whyNot 10 = .ok (.putfield 31, 3) := by decide +kernel
theorem dX8_whyNot_13 : decode cX8_whyNot 13 = .ok (.aload_n 0, 1) := by decide +kernel
theorem dX8_whyNot_14 : decode cX8_whyNot 14 = .ok (.getfield 31, 3) := by decide +kernel
theorem dX8_whyNot_17 : decode cX8_whyNot 17 = .ok (.ifCond .le 7, 3) := by decide +kernel
theorem dX8_whyNot_20 : decode cX8_whyNot 20 = .ok (.iconst 0, 1) := by decide +kernel
theorem dX8_whyNot_21 : decode cX8_whyNot 21 = .ok (.goto 8, 3) := by decide +kernel
theorem dX8_whyNot_24 : decode cX8_whyNot 24 = .ok (.aload_n 0, 1) := by decide +kernel
theorem dX8_whyNot_25 : decode cX8_whyNot 25 = .ok (.iload_n 1, 1) := by decide +kernel
theorem dX8_whyNot_26 : decode cX8_whyNot 26 = .ok (.invokevirtual 118, 3) := by decide +kernel
theorem dX8_whyNot_29 : decode cX8_whyNot 29 = .ok (.ireturn, 1) := by decide +kernel
theorem dX8_tryChain_0 : decode cX8_tryChain 0 = .ok (.iconst 0, 1) := by decide +kernel
theorem dX8_tryChain_1 : decode cX8_tryChain 1 = .ok (.istore_n 2, 1) := by decide +kernel
theorem dX8_tryChain_2 : decode cX8_tryChain 2 = .ok (.iconst 0, 1) := by decide +kernel
theorem dX8_tryChain_3 : decode cX8_tryChain 3 = .ok (.istore_n 3, 1) := by decide +kernel
theorem dX8_tryChain_4 : decode cX8_tryChain 4 = .ok (.iload_n 3, 1) := by decide +kernel
theorem dX8_tryChain_5 : decode cX8_tryChain 5 = .ok (.aload_n 0, 1) := by decide +kernel
theorem dX8_tryChain_6 : decode cX8_tryChain 6 = .ok (.getfield 91, 3) := by decide +kernel
theorem dX8_tryChain_9 : decode cX8_tryChain 9 = .ok (.if_icmp .ge 27, 3) := by decide +kernel
theorem dX8_tryChain_12 : decode cX8_tryChain 12 = .ok (.iload_n 2, 1) := by decide +kernel
theorem dX8_tryChain_13 : decode cX8_tryChain 13 = .ok (.aload_n 0, 1) := by decide +kernel
theorem dX8_tryChain_14 : decode cX8_tryChain 14 = .ok (.aload_n 0, 1) := by decide +kernel
theorem dX8_tryChain_15 : decode cX8_tryChain 15 = .ok (.getfield 19, 3) := by decide +kernel
theorem dX8_tryChain_18 : decode cX8_tryChain 18 = .ok (.iload_n 3, 1) := by decide +kernel
theorem dX8_tryChain_19 : decode cX8_tryChain 19 = .ok (.iaload, 1) := by decide +kernel
theorem dX8_tryChain_20 : decode cX8_tryChain 20 = .ok (.iload_n 1, 1) := by decide +kernel
theorem dX8_tryChain_21 : decode cX8_tryChain 21 = .ok (.aload_n 0, 1) := by decide +kernel
theorem dX8_tryChain_22 : decode cX8_tryChain 22 = .ok (.getfield 91, 3) := by decide +kernel
theorem dX8_tryChain_25 : decode cX8_tryChain 25 = .ok (.invokevirtual 61, 3) := by decide +kernel
theorem dX8_tryChain_28 : decode cX8_tryChain 28 = .ok (.iadd, 1) := by decide +kernel
theorem dX8_tryChain_29 : decode cX8_tryChain 29 = .ok (.istore_n 2, 1) := by decide +kernel
theorem dX8_tryChain_30 : decode cX8_tryChain 30 = .ok (.iinc 3 1, 3) := by decide +kernel
theorem dX8_tryChain_33 : decode cX8_tryChain 33 = .ok (.goto (-29), 3) := by decide +kernel
theorem dX8_tryChain_36 : decode cX8_tryChain 36 = .ok (.iload_n 2, 1) := by decide +kernel
theorem dX8_tryChain_37 : decode cX8_tryChain 37 = .ok (.aload_n 0, 1) := by decide +kernel
theorem dX8_tryChain_38 : decode cX8_tryChain 38 = .ok (.getfield 202, 3) := by decide +kernel
theorem dX8_tryChain_41 : decode cX8_tryChain 41 = .ok (.if_icmp .ge 49, 3) := by decide +kernel
theorem dX8_tryChain_44 : decode cX8_tryChain 44 = .ok (.aload_n 0, 1) := by decide +kernel
theorem dX8_tryChain_45 : decode cX8_tryChain 45 = .ok (.iload_n 1, 1) := by decide +kernel
theorem dX8_tryChain_46 : decode cX8_tryChain 46 = .ok (.invokevirtual 118, 3) := by decide +kernel
theorem dX8_tryChain_49 : decode cX8_tryChain 49 = .ok (.ifCond .ne 41, 3) := by decide +kernel
theorem dX8_tryChain_52 : decode cX8_tryChain 52 = .ok (.aload_n 0, 1) := by decide +kernel
theorem dX8_tryChain_53 : decode cX8_tryChain 53 = .ok (.iload_n 2, 1) := by decide +kernel
theorem dX8_tryChain_54 : decode cX8_tryChain 54 = .ok (.putfield 202, 3) := by decide +kernel
theorem dX8_tryChain_57 : decode cX8_tryChain 57 = .ok (.aload_n 0, 1) := by decide +kernel
theorem dX8_tryChain_58 : decode cX8_tryChain 58 = .ok (.aload_n 0, 1) := by decide +kernel
theorem dX8_tryChain_59 : decode cX8_tryChain 59 = .ok (.getfield 91, 3) := by decide +kernel
theorem dX8_tryChain_62 : decode cX8_tryChain 62 = .ok (.putfield 205, 3) := by decide +kernel
theorem dX8_tryChain_65 : decode cX8_tryChain 65 = .ok (.iconst 0, 1) := by decide +kernel
theorem dX8_tryChain_66 : decode cX8_tryChain 66 = .ok (.istore_n 3, 1) := by decide +kernel
theorem dX8_tryChain_67 : decode cX8_tryChain 67 = .ok (.iload_n 3, 1) := by decide +kernel
theorem dX8_tryChain_68 : decode cX8_tryChain 68 = .ok (.iconst 3, 1) := by decide +kernel
theorem dX8_tryChain_69 : decode cX8_tryChain 69 = .ok (.if_icmp .ge 21, 3) := by decide +kernel
theorem dX8_tryChain_72 : decode cX8_tryChain 72 = .ok (.aload_n 0, 1) := by decide +kernel
theorem dX8_tryChain_73 : decode cX8_tryChain 73 = .ok (.getfield 25, 3) := by decide +kernel
theorem dX8_tryChain_76 : decode cX8_tryChain 76 = .ok (.iload_n 3, 1) := by decide +kernel
theorem dX8_tryChain_77 : decode cX8_tryChain 77 = .ok (.aload_n 0, 1) := by decide +kernel
theorem dX8_tryChain_78 : decode cX8_tryChain 78 = .ok (.getfield 19, 3) := by decide +kernel
theorem dX8_tryChain_81 : decode cX8_tryChain 81 = .ok (.iload_n 3, 1) := by decide +kernel
theorem dX8_tryChain_82 : decode cX8_tryChain 82 = .ok (.iaload, 1) := by decide +kernel
theorem dX8_tryChain_83 : decode cX8_tryChain 83 = .ok (.iastore, 1) := by decide +kernel
theorem dX8_tryChain_84 : decode cX8_tryChain 84 = .ok (.iinc 3 1, 3) := by decide +kernel
theorem dX8_tryChain_87 : decode cX8_tryChain 87 = .ok (.goto (-20), 3) := by decide +kernel
theorem dX8_tryChain_90 : decode cX8_tryChain 90 = .ok (.return_, 1) := by decide +kernel
theorem dX8_layCheapest_0 : decode cX8_layCheapest 0 = .ok (.aload_n 0, 1) := by decide +kernel
theorem dX8_layCheapest_1 : decode cX8_layCheapest 1 = .ok (.ldc 208, 2) := by decide +kernel
theorem dX8_layCheapest_3 : decode cX8_layCheapest 3 = .ok (.putfield 202, 3) := by decide +kernel
theorem dX8_layCheapest_6 : decode cX8_layCheapest 6 = .ok (.iconst 1, 1) := by decide +kernel
theorem dX8_layCheapest_7 : decode cX8_layCheapest 7 = .ok (.istore_n 2, 1) := by decide +kernel
theorem dX8_layCheapest_8 : decode cX8_layCheapest 8 = .ok (.iload_n 2, 1) := by decide +kernel
theorem dX8_layCheapest_9 : decode cX8_layCheapest 9 = .ok (.iconst 3, 1) := by decide +kernel
theorem dX8_layCheapest_10 : decode cX8_layCheapest 10 = .ok (.if_icmp .gt 184, 3) := by decide +kernel
theorem dX8_layCheapest_13 : decode cX8_layCheapest 13 = .ok (.iload_n 2, 1) := by decide +kernel
theorem dX8_layCheapest_14 : decode cX8_layCheapest 14 = .ok (.iconst 1, 1) := by decide +kernel
theorem dX8_layCheapest_15 : decode cX8_layCheapest 15 = .ok (.if_icmp .ne 7, 3) := by decide +kernel
theorem dX8_layCheapest_18 : decode cX8_layCheapest 18 = .ok (.iconst 1, 1) := by decide +kernel
theorem dX8_layCheapest_19 : decode cX8_layCheapest 19 = .ok (.goto 15, 3) := by decide +kernel
theorem dX8_layCheapest_22 : decode cX8_layCheapest 22 = .ok (.iload_n 2, 1) := by decide +kernel
theorem dX8_layCheapest_23 : decode cX8_layCheapest 23 = .ok (.iconst 2, 1) := by decide +kernel
theorem dX8_layCheapest_24 : decode cX8_layCheapest 24 = .ok (.if_icmp .ne 8, 3) := by decide +kernel
theorem dX8_layCheapest_27 : decode cX8_layCheapest 27 = .ok (.bipush 10, 2) := by decide +kernel
theorem dX8_layCheapest_29 : decode cX8_layCheapest 29 = .ok (.goto 5, 3) := by decide +kernel
theorem dX8_layCheapest_32 : decode cX8_layCheapest 32 = .ok (.bipush 100, 2) := by decide +kernel
theorem dX8_layCheapest_34 : decode cX8_layCheapest 34 = .ok (.istore_n 3, 1) := by decide +kernel
theorem dX8_layCheapest_35 : decode cX8_layCheapest 35 = .ok (.iconst 0, 1) := by decide +kernel
theorem dX8_layCheapest_36 : decode cX8_layCheapest 36 = .ok (.istore 4, 2) := by decide +kernel
theorem dX8_layCheapest_38 : decode cX8_layCheapest 38 = .ok (.iload 4, 2) := by decide +kernel
theorem dX8_layCheapest_40 : decode cX8_layCheapest 40 = .ok (.iload_n 3, 1) := by decide +kernel
theorem dX8_layCheapest_41 : decode cX8_layCheapest 41 = .ok (.aload_n 0, 1) := by decide +kernel
theorem dX8_layCheapest_42 : decode cX8_layCheapest 42 = .ok (.getfield 7, 3) := by decide +kernel
theorem dX8_layCheapest_45 : decode cX8_layCheapest 45 = .ok (.bipush 7, 2) := by decide +kernel
theorem dX8_layCheapest_47 : decode cX8_layCheapest 47 = .ok (.iaload, 1) := by decide +kernel
theorem dX8_layCheapest_48 : decode cX8_layCheapest 48 = .ok (.imul, 1) := by decide +kernel
theorem dX8_layCheapest_49 : decode cX8_layCheapest 49 = .ok (.if_icmp .ge 139, 3) := by decide +kernel
theorem dX8_layCheapest_52 : decode cX8_layCheapest 52 = .ok (.iload 4, 2) := by decide +kernel
theorem dX8_layCheapest_54 : decode cX8_layCheapest 54 = .ok (.iload_n 3, 1) := by decide +kernel
theorem dX8_layCheapest_55 : decode cX8_layCheapest 55 = .ok (.idiv, 1) := by decide +kernel
theorem dX8_layCheapest_56 : decode cX8_layCheapest 56 = .ok (.istore 5, 2) := by decide +kernel
theorem dX8_layCheapest_58 : decode cX8_layCheapest 58 = .ok (.iload_n 2, 1) := by decide +kernel
theorem dX8_layCheapest_59 : decode cX8_layCheapest 59 = .ok (.iconst 1, 1) := by decide +kernel
theorem dX8_layCheapest_60 : decode cX8_layCheapest 60 = .ok (.if_icmp .ne 7, 3) := by decide +kernel
theorem dX8_layCheapest_63 : decode cX8_layCheapest 63 = .ok (.iconst (-1), 1) := by decide +kernel
theorem dX8_layCheapest_64 : decode cX8_layCheapest 64 = .ok (.goto 24, 3) := by decide +kernel
theorem dX8_layCheapest_67 : decode cX8_layCheapest 67 = .ok (.iload_n 2, 1) := by decide +kernel
theorem dX8_layCheapest_68 : decode cX8_layCheapest 68 = .ok (.iconst 2, 1) := by decide +kernel
theorem dX8_layCheapest_69 : decode cX8_layCheapest 69 = .ok (.if_icmp .ne 11, 3) := by decide +kernel
theorem dX8_layCheapest_72 : decode cX8_layCheapest 72 = .ok (.iload 4, 2) := by decide +kernel
theorem dX8_layCheapest_74 : decode cX8_layCheapest 74 = .ok (.bipush 10, 2) := by decide +kernel
theorem dX8_layCheapest_76 : decode cX8_layCheapest 76 = .ok (.irem, 1) := by decide +kernel
theorem dX8_layCheapest_77 : decode cX8_layCheapest 77 = .ok (.goto 11, 3) := by decide +kernel
theorem dX8_layCheapest_80 : decode cX8_layCheapest 80 = .ok (.iload 4, 2) := by decide +kernel
theorem dX8_layCheapest_82 : decode cX8_layCheapest 82 = .ok (.bipush 10, 2) := by decide +kernel
theorem dX8_layCheapest_84 : decode cX8_layCheapest 84 = .ok (.idiv, 1) := by decide +kernel
theorem dX8_layCheapest_85 : decode cX8_layCheapest 85 = .ok (.bipush 10, 2) := by decide +kernel
theorem dX8_layCheapest_87 : decode cX8_layCheapest 87 = .ok (.irem, 1) := by decide +kernel
theorem dX8_layCheapest_88 : decode cX8_layCheapest 88 = .ok (.istore 6, 2) := by decide +kernel
theorem dX8_layCheapest_90 : decode cX8_layCheapest 90 = .ok (.iload_n 2, 1) := by decide +kernel
theorem dX8_layCheapest_91 : decode cX8_layCheapest 91 = .ok (.iconst 3, 1) := by decide +kernel
theorem dX8_layCheapest_92 : decode cX8_layCheapest 92 = .ok (.if_icmp .ge 7, 3) := by decide +kernel
theorem dX8_layCheapest_95 : decode cX8_layCheapest 95 = .ok (.iconst (-1), 1) := by decide +kernel
theorem dX8_layCheapest_96 : decode cX8_layCheapest 96 = .ok (.goto 8, 3) := by decide +kernel
theorem dX8_layCheapest_99 : decode cX8_layCheapest 99 = .ok (.iload 4, 2) := by decide +kernel
theorem dX8_layCheapest_101 : decode cX8_layCheapest 101 = .ok (.bipush 10, 2) := by decide +kernel
theorem dX8_layCheapest_103 : decode cX8_layCheapest 103 = .ok (.irem, 1) := by decide +kernel
theorem dX8_layCheapest_104 : decode cX8_layCheapest 104 = .ok (.istore 7, 2) := by decide +kernel
theorem dX8_layCheapest_106 : decode cX8_layCheapest 106 = .ok (.iload_n 2, 1) := by decide +kernel
theorem dX8_layCheapest_107 : decode cX8_layCheapest 107 = .ok (.iconst 2, 1) := by decide +kernel
theorem dX8_layCheapest_108 : decode cX8_layCheapest 108 = .ok (.if_icmp .lt 19, 3) := by decide +kernel
theorem dX8_layCheapest_111 : decode cX8_layCheapest 111 = .ok (.aload_n 0, 1) := by decide +kernel
theorem dX8_layCheapest_112 : decode cX8_layCheapest 112 = .ok (.iload 6, 2) := by decide +kernel
theorem dX8_layCheapest_114 : decode cX8_layCheapest 114 = .ok (.invokevirtual 82, 3) := by decide +kernel
theorem dX8_layCheapest_117 : decode cX8_layCheapest 117 = .ok (.ifCond .eq 42, 3) := by decide +kernel
theorem dX8_layCheapest_120 : decode cX8_layCheapest 120 = .ok (.iload 6, 2) := by decide +kernel
theorem dX8_layCheapest_122 : decode cX8_layCheapest 122 = .ok (.iload 5, 2) := by decide +kernel
theorem dX8_layCheapest_124 : decode cX8_layCheapest 124 = .ok (.if_icmp .eq 35, 3) := by decide +kernel
theorem dX8_layCheapest_127 : decode cX8_layCheapest 127 = .ok (.iload_n 2, 1) := by decide +kernel
theorem dX8_layCheapest_128 : decode cX8_layCheapest 128 = .ok (.iconst 3, 1) := by decide +kernel
theorem dX8_layCheapest_129 : decode cX8_layCheapest 129 = .ok (.if_icmp .lt 26, 3) := by decide +kernel
theorem dX8_layCheapest_132 : decode cX8_layCheapest 132 = .ok (.aload_n 0, 1) := by decide +kernel
theorem dX8_layCheapest_133 : decode cX8_layCheapest 133 = .ok (.iload 7, 2) := by decide +kernel
theorem dX8_layCheapest_135 : decode cX8_layCheapest 135 = .ok (.invokevirtual 82, 3) := by decide +kernel
theorem dX8_layCheapest_138 : decode cX8_layCheapest 138 = .ok (.ifCond .eq 21, 3) := by decide +kernel
theorem dX8_layCheapest_141 : decode cX8_layCheapest 141 = .ok (.iload 7, 2) := by decide +kernel
theorem dX8_layCheapest_143 : decode cX8_layCheapest 143 = .ok (.iload 5, 2) := by decide +kernel
theorem dX8_layCheapest_145 : decode cX8_layCheapest 145 = .ok (.if_icmp .eq 14, 3) := by decide +kernel
theorem dX8_layCheapest_148 : decode cX8_layCheapest 148 = .ok (.iload 7, 2) := by decide +kernel
theorem dX8_layCheapest_150 : decode cX8_layCheapest 150 = .ok (.iload 6, 2) := by decide +kernel
theorem dX8_layCheapest_152 : decode cX8_layCheapest 152 = .ok (.if_icmp .eq 7, 3) := by decide +kernel
theorem dX8_layCheapest_155 : decode cX8_layCheapest 155 = .ok (.iconst 1, 1) := by decide +kernel
theorem dX8_layCheapest_156 : decode cX8_layCheapest 156 = .ok (.goto 4, 3) := by decide +kernel
theorem dX8_layCheapest_159 : decode cX8_layCheapest 159 = .ok (.iconst 0, 1) := by decide +kernel
theorem dX8_layCheapest_160 : decode cX8_layCheapest 160 = .ok (.istore 8, 2) := by decide +kernel
theorem dX8_layCheapest_162 : decode cX8_layCheapest 162 = .ok (.iload 8, 2) := by decide +kernel
theorem dX8_layCheapest_164 : decode cX8_layCheapest 164 = .ok (.ifCond .eq 18, 3) := by decide +kernel
theorem dX8_layCheapest_167 : decode cX8_layCheapest 167 = .ok (.aload_n 0, 1) := by decide +kernel
theorem dX8_layCheapest_168 : decode cX8_layCheapest 168 = .ok (.iload 5, 2) := by decide +kernel
theorem dX8_layCheapest_170 : decode cX8_layCheapest 170 = .ok (.iload 6, 2) := by decide +kernel
theorem dX8_layCheapest_172 : decode cX8_layCheapest 172 = .ok (.iload 7, 2) := by decide +kernel
theorem dX8_layCheapest_174 : decode cX8_layCheapest 174 = .ok (.invokevirtual 112, 3) := by decide +kernel
theorem dX8_layCheapest_177 : decode cX8_layCheapest 177 = .ok (.aload_n 0, 1) := by decide +kernel
theorem dX8_layCheapest_178 : decode cX8_layCheapest 178 = .ok (.iload_n 1, 1) := by decide +kernel
theorem dX8_layCheapest_179 : decode cX8_layCheapest 179 = .ok (.invokevirtual 209, 3) := by decide +kernel
theorem dX8_layCheapest_182 : decode cX8_layCheapest 182 = .ok (.iinc 4 1, 3) := by decide +kernel
theorem dX8_layCheapest_185 : decode cX8_layCheapest 185 = .ok (.goto (-147), 3) := by decide +kernel
theorem dX8_layCheapest_188 : decode cX8_layCheapest 188 = .ok (.iinc 2 1, 3) := by decide +kernel
theorem dX8_layCheapest_191 : decode cX8_layCheapest 191 = .ok (.goto (-183), 3) := by decide +kernel
theorem dX8_layCheapest_194 : decode cX8_layCheapest 194 = .ok (.aload_n 0, 1) := by decide +kernel
theorem dX8_layCheapest_195 : decode cX8_layCheapest 195 = .ok (.getfield 202, 3) := by decide +kernel
theorem dX8_layCheapest_198 : decode cX8_layCheapest 198 = .ok (.ldc 208, 2) := by decide +kernel
theorem dX8_layCheapest_200 : decode cX8_layCheapest 200 = .ok (.if_icmp .ge 7, 3) := by decide +kernel
theorem dX8_layCheapest_203 : decode cX8_layCheapest 203 = .ok (.iconst 1, 1) := by decide +kernel
theorem dX8_layCheapest_204 : decode cX8_layCheapest 204 = .ok (.goto 4, 3) := by decide +kernel
theorem dX8_layCheapest_207 : decode cX8_layCheapest 207 = .ok (.iconst 0, 1) := by decide +kernel
theorem dX8_layCheapest_208 : decode cX8_layCheapest 208 = .ok (.ireturn, 1) := by decide +kernel
theorem dX8_cheapestNow_0 : decode cX8_cheapestNow 0 = .ok (.aload_n 0, 1) := by decide +kernel
theorem dX8_cheapestNow_1 : decode cX8_cheapestNow 1 = .ok (.iload_n 1, 1) := by decide +kernel
theorem dX8_cheapestNow_2 : decode cX8_cheapestNow 2 = .ok (.invokevirtual 125, 3) := by decide +kernel
theorem dX8_cheapestNow_5 : decode cX8_cheapestNow 5 = .ok (.ifCond .eq 11, 3) := by decide +kernel
theorem dX8_cheapestNow_8 : decode cX8_cheapestNow 8 = .ok (.aload_n 0, 1) := by decide +kernel
theorem dX8_cheapestNow_9 : decode cX8_cheapestNow 9 = .ok (.iload_n 1, 1) := by decide +kernel
theorem dX8_cheapestNow_10 : decode cX8_cheapestNow 10 = .ok (.invokevirtual 212, 3) := by decide +kernel
theorem dX8_cheapestNow_13 : decode cX8_cheapestNow 13 = .ok (.ifCond .ne 5, 3) := by decide +kernel
theorem dX8_cheapestNow_16 : decode cX8_cheapestNow 16 = .ok (.iconst (-1), 1) := by decide +kernel
theorem dX8_cheapestNow_17 : decode cX8_cheapestNow 17 = .ok (.ireturn, 1) := by decide +kernel
theorem dX8_cheapestNow_18 : decode cX8_cheapestNow 18 = .ok (.iload_n 2, 1) := by decide +kernel
theorem dX8_cheapestNow_19 : decode cX8_cheapestNow 19 = .ok (.ifCond .ne 10, 3) := by decide +kernel
theorem dX8_cheapestNow_22 : decode cX8_cheapestNow 22 = .ok (.aload_n 0, 1) := by decide +kernel
theorem dX8_cheapestNow_23 : decode cX8_cheapestNow 23 = .ok (.getfield 202, 3) := by decide +kernel
theorem dX8_cheapestNow_26 : decode cX8_cheapestNow 26 = .ok (.goto 23, 3) := by decide +kernel
theorem dX8_cheapestNow_29 : decode cX8_cheapestNow 29 = .ok (.iload_n 2, 1) := by decide +kernel
theorem dX8_cheapestNow_30 : decode cX8_cheapestNow 30 = .ok (.iconst 1, 1) := by decide +kernel
theorem dX8_cheapestNow_31 : decode cX8_cheapestNow 31 = .ok (.if_icmp .ne 10, 3) := by decide +kernel
theorem dX8_cheapestNow_34 : decode cX8_cheapestNow 34 = .ok (.aload_n 0, 1) := by decide +kernel
theorem dX8_cheapestNow_35 : decode cX8_cheapestNow 35 = .ok (.getfield 205, 3) := by decide +kernel
theorem dX8_cheapestNow_38 : decode cX8_cheapestNow 38 = .ok (.goto 11, 3) := by decide +kernel
theorem dX8_cheapestNow_41 : decode cX8_cheapestNow 41 = .ok (.aload_n 0, 1) := by decide +kernel
theorem dX8_cheapestNow_42 : decode cX8_cheapestNow 42 = .ok (.getfield 25, 3) := by decide +kernel
theorem dX8_cheapestNow_45 : decode cX8_cheapestNow 45 = .ok (.iload_n 2, 1) := by decide +kernel
theorem dX8_cheapestNow_46 : decode cX8_cheapestNow 46 = .ok (.iconst 2, 1) := by decide +kernel
theorem dX8_cheapestNow_47 : decode cX8_cheapestNow 47 = .ok (.isub, 1) := by decide +kernel
theorem dX8_cheapestNow_48 : decode cX8_cheapestNow 48 = .ok (.iaload, 1) := by decide +kernel
theorem dX8_cheapestNow_49 : decode cX8_cheapestNow 49 = .ok (.ireturn, 1) := by decide +kernel
theorem dX8_cheapest_0 : decode cX8_cheapest 0 = .ok (.aload_n 0, 1) := by decide +kernel
theorem dX8_cheapest_1 : decode cX8_cheapest 1 = .ok (.aload_n 0, 1) := by decide +kernel
theorem dX8_cheapest_2 : decode cX8_cheapest 2 = .ok (.iload_n 1, 1) := by decide +kernel
theorem dX8_cheapest_3 : decode cX8_cheapest 3 = .ok (.invokevirtual 109, 3) := by decide +kernel
theorem dX8_cheapest_6 : decode cX8_cheapest 6 = .ok (.ifCond .ne 7, 3) := by decide +kernel
theorem dX8_cheapest_9 : decode cX8_cheapest 9 = .ok (.iconst 1, 1) := by decide +kernel
theorem dX8_cheapest_10 : decode cX8_cheapest 10 = .ok (.goto 17, 3) := by decide +kernel
theorem dX8_cheapest_13 : decode cX8_cheapest 13 = .ok (.iload_n 2, 1) := by decide +kernel
theorem dX8_cheapest_14 : decode cX8_cheapest 14 = .ok (.iconst 0, 1) := by decide +kernel
theorem dX8_cheapest_15 : decode cX8_cheapest 15 = .ok (.iconst 4, 1) := by decide +kernel
theorem dX8_cheapest_16 : decode cX8_cheapest 16 = .ok (.invokestatic 38, 3) := by decide +kernel
theorem dX8_cheapest_19 : decode cX8_cheapest 19 = .ok (.ifCond .eq 7, 3) := by decide +kernel
theorem dX8_cheapest_22 : decode cX8_cheapest 22 = .ok (.iconst 0, 1) := by decide +kernel
theorem dX8_cheapest_23 : decode cX8_cheapest 23 = .ok (.goto 4, 3) := by decide +kernel
theorem dX8_cheapest_26 : decode cX8_cheapest 26 = .ok (.iconst 2, 1) := by decide +kernel
theorem dX8_cheapest_27 : decode cX8_cheapest 27 = .ok (.putfield 31, 3) := by decide +kernel
theorem dX8_cheapest_30 : decode cX8_cheapest 30 = .ok (.aload_n 0, 1) := by decide +kernel
theorem dX8_cheapest_31 : decode cX8_cheapest 31 = .ok (.getfield 31, 3) := by decide +kernel
theorem dX8_cheapest_34 : decode cX8_cheapest 34 = .ok (.ifCond .le 7, 3) := by decide +kernel
theorem dX8_cheapest_37 : decode cX8_cheapest 37 = .ok (.iconst 0, 1) := by decide +kernel
theorem dX8_cheapest_38 : decode cX8_cheapest 38 = .ok (.goto 9, 3) := by decide +kernel
theorem dX8_cheapest_41 : decode cX8_cheapest 41 = .ok (.aload_n 0, 1) := by decide +kernel
theorem dX8_cheapest_42 : decode cX8_cheapest 42 = .ok (.iload_n 1, 1) := by decide +kernel
theorem dX8_cheapest_43 : decode cX8_cheapest 43 = .ok (.iload_n 2, 1) := by decide +kernel
theorem dX8_cheapest_44 : decode cX8_cheapest 44 = .ok (.invokevirtual 215, 3) := by decide +kernel
theorem dX8_cheapest_47 : decode cX8_cheapest 47 = .ok (.ireturn, 1) := by decide +kernel
theorem dX8_keep_0 : decode cX8_keep 0 = .ok (.iconst 0, 1) := by decide +kernel
theorem dX8_keep_1 : decode cX8_keep 1 = .ok (.istore_n 1, 1) := by decide +kernel
theorem dX8_keep_2 : decode cX8_keep 2 = .ok (.iload_n 1, 1) := by decide +kernel
theorem dX8_keep_3 : decode cX8_keep 3 = .ok (.sipush 373, 3) := by decide +kernel
theorem dX8_keep_6 : decode cX8_keep 6 = .ok (.if_icmp .ge 21, 3) := by decide +kernel
theorem dX8_keep_9 : decode cX8_keep 9 = .ok (.aload_n 0, 1) := by decide +kernel
theorem dX8_keep_10 : decode cX8_keep 10 = .ok (.getfield 28, 3) := by decide +kernel
theorem dX8_keep_13 : decode cX8_keep 13 = .ok (.iload_n 1, 1) := by decide +kernel
theorem dX8_keep_14 : decode cX8_keep 14 = .ok (.aload_n 0, 1) := by decide +kernel
theorem dX8_keep_15 : decode cX8_keep 15 = .ok (.getfield 7, 3) := by decide +kernel
theorem dX8_keep_18 : decode cX8_keep 18 = .ok (.iload_n 1, 1) := by decide +kernel
theorem dX8_keep_19 : decode cX8_keep 19 = .ok (.iaload, 1) := by decide +kernel
theorem dX8_keep_20 : decode cX8_keep 20 = .ok (.iastore, 1) := by decide +kernel
theorem dX8_keep_21 : decode cX8_keep 21 = .ok (.iinc 1 1, 3) := by decide +kernel
theorem dX8_keep_24 : decode cX8_keep 24 = .ok (.goto (-22), 3) := by decide +kernel
theorem dX8_keep_27 : decode cX8_keep 27 = .ok (.return_, 1) := by decide +kernel
theorem dX8_layBack_0 : decode cX8_layBack 0 = .ok (.iconst 0, 1) := by decide +kernel
theorem dX8_layBack_1 : decode cX8_layBack 1 = .ok (.istore_n 1, 1) := by decide +kernel
theorem dX8_layBack_2 : decode cX8_layBack 2 = .ok (.iload_n 1, 1) := by decide +kernel
theorem dX8_layBack_3 : decode cX8_layBack 3 = .ok (.sipush 373, 3) := by decide +kernel
theorem dX8_layBack_6 : decode cX8_layBack 6 = .ok (.if_icmp .ge 21, 3) := by decide +kernel
theorem dX8_layBack_9 : decode cX8_layBack 9 = .ok (.aload_n 0, 1) := by decide +kernel
theorem dX8_layBack_10 : decode cX8_layBack 10 = .ok (.getfield 7, 3) := by decide +kernel
theorem dX8_layBack_13 : decode cX8_layBack 13 = .ok (.iload_n 1, 1) := by decide +kernel
theorem dX8_layBack_14 : decode cX8_layBack 14 = .ok (.aload_n 0, 1) := by decide +kernel
theorem dX8_layBack_15 : decode cX8_layBack 15 = .ok (.getfield 28, 3) := by decide +kernel
theorem dX8_layBack_18 : decode cX8_layBack 18 = .ok (.iload_n 1, 1) := by decide +kernel
theorem dX8_layBack_19 : decode cX8_layBack 19 = .ok (.iaload, 1) := by decide +kernel
theorem dX8_layBack_20 : decode cX8_layBack 20 = .ok (.iastore, 1) := by decide +kernel
theorem dX8_layBack_21 : decode cX8_layBack 21 = .ok (.iinc 1 1, 3) := by decide +kernel
theorem dX8_layBack_24 : decode cX8_layBack 24 = .ok (.goto (-22), 3) := by decide +kernel
theorem dX8_layBack_27 : decode cX8_layBack 27 = .ok (.return_, 1) := by decide +kernel
theorem dX8_tiredThen_0 : decode cX8_tiredThen 0 = .ok (.aload_n 0, 1) := by decide +kernel
theorem dX8_tiredThen_1 : decode cX8_tiredThen 1 = .ok (.invokevirtual 218, 3) := by decide +kernel
theorem dX8_tiredThen_4 : decode cX8_tiredThen 4 = .ok (.aload_n 0, 1) := by decide +kernel
theorem dX8_tiredThen_5 : decode cX8_tiredThen 5 = .ok (.iload_n 2, 1) := by decide +kernel
theorem dX8_tiredThen_6 : decode cX8_tiredThen 6 = .ok (.invokevirtual 150, 3) := by decide +kernel
theorem dX8_tiredThen_9 : decode cX8_tiredThen 9 = .ok (.istore_n 3, 1) := by decide +kernel
theorem dX8_tiredThen_10 : decode cX8_tiredThen 10 = .ok (.aload_n 0, 1) := by decide +kernel
theorem dX8_tiredThen_11 : decode cX8_tiredThen 11 = .ok (.getfield 7, 3) := by decide +kernel
theorem dX8_tiredThen_14 : decode cX8_tiredThen 14 = .ok (.bipush 43, 2) := by decide +kernel
theorem dX8_tiredThen_16 : decode cX8_tiredThen 16 = .ok (.iload_n 1, 1) := by decide +kernel
theorem dX8_tiredThen_17 : decode cX8_tiredThen 17 = .ok (.iadd, 1) := by decide +kernel
theorem dX8_tiredThen_18 : decode cX8_tiredThen 18 = .ok (.iaload, 1) := by decide +kernel
theorem dX8_tiredThen_19 : decode cX8_tiredThen 19 = .ok (.istore 4, 2) := by decide +kernel
theorem dX8_tiredThen_21 : decode cX8_tiredThen 21 = .ok (.aload_n 0, 1) := by decide +kernel
theorem dX8_tiredThen_22 : decode cX8_tiredThen 22 = .ok (.invokevirtual 221, 3) := by decide +kernel
theorem dX8_tiredThen_25 : decode cX8_tiredThen 25 = .ok (.iload 4, 2) := by decide +kernel
theorem dX8_tiredThen_27 : decode cX8_tiredThen 27 = .ok (.ireturn, 1) := by decide +kernel
theorem dX8_tiredIn_0 : decode cX8_tiredIn 0 = .ok (.aload_n 0, 1) := by decide +kernel
theorem dX8_tiredIn_1 : decode cX8_tiredIn 1 = .ok (.aload_n 0, 1) := by decide +kernel
theorem dX8_tiredIn_2 : decode cX8_tiredIn 2 = .ok (.iload_n 1, 1) := by decide +kernel
theorem dX8_tiredIn_3 : decode cX8_tiredIn 3 = .ok (.invokevirtual 82, 3) := by decide +kernel
theorem dX8_tiredIn_6 : decode cX8_tiredIn 6 = .ok (.ifCond .ne 7, 3) := by decide +kernel
theorem dX8_tiredIn_9 : decode cX8_tiredIn 9 = .ok (.iconst 1, 1) := by decide +kernel
theorem dX8_tiredIn_10 : decode cX8_tiredIn 10 = .ok (.goto 19, 3) := by decide +kernel
theorem dX8_tiredIn_13 : decode cX8_tiredIn 13 = .ok (.iload_n 2, 1) := by decide +kernel
theorem dX8_tiredIn_14 : decode cX8_tiredIn 14 = .ok (.iconst 0, 1) := by decide +kernel
theorem dX8_tiredIn_15 : decode cX8_tiredIn 15 = .ok (.sipush 500, 3) := by decide +kernel
theorem dX8_tiredIn_18 : decode cX8_tiredIn 18 = .ok (.invokestatic 38, 3) := by decide +kernel
theorem dX8_tiredIn_21 : decode cX8_tiredIn 21 = .ok (.ifCond .eq 7, 3) := by decide +kernel
theorem dX8_tiredIn_24 : decode cX8_tiredIn 24 = .ok (.iconst 0, 1) := by decide +kernel
theorem dX8_tiredIn_25 : decode cX8_tiredIn 25 = .ok (.goto 4, 3) := by decide +kernel
theorem dX8_tiredIn_28 : decode cX8_tiredIn 28 = .ok (.iconst 2, 1) := by decide +kernel
theorem dX8_tiredIn_29 : decode cX8_tiredIn 29 = .ok (.putfield 31, 3) := by decide +kernel
theorem dX8_tiredIn_32 : decode cX8_tiredIn 32 = .ok (.aload_n 0, 1) := by decide +kernel
theorem dX8_tiredIn_33 : decode cX8_tiredIn 33 = .ok (.getfield 31, 3) := by decide +kernel
theorem dX8_tiredIn_36 : decode cX8_tiredIn 36 = .ok (.ifCond .le 7, 3) := by decide +kernel
theorem dX8_tiredIn_39 : decode cX8_tiredIn 39 = .ok (.iconst 0, 1) := by decide +kernel
theorem dX8_tiredIn_40 : decode cX8_tiredIn 40 = .ok (.goto 9, 3) := by decide +kernel
theorem dX8_tiredIn_43 : decode cX8_tiredIn 43 = .ok (.aload_n 0, 1) := by decide +kernel
theorem dX8_tiredIn_44 : decode cX8_tiredIn 44 = .ok (.iload_n 1, 1) := by decide +kernel
theorem dX8_tiredIn_45 : decode cX8_tiredIn 45 = .ok (.iload_n 2, 1) := by decide +kernel
theorem dX8_tiredIn_46 : decode cX8_tiredIn 46 = .ok (.invokevirtual 224, 3) := by decide +kernel
theorem dX8_tiredIn_49 : decode cX8_tiredIn 49 = .ok (.ireturn, 1) := by decide +kernel
theorem dX8_vacatedThen_0 : decode cX8_vacatedThen 0 = .ok (.aload_n 0, 1) := by decide +kernel
theorem dX8_vacatedThen_1 : decode cX8_vacatedThen 1 = .ok (.iload_n 1, 1) := by decide +kernel
theorem dX8_vacatedThen_2 : decode cX8_vacatedThen 2 = .ok (.iconst 2, 1) := by decide +kernel
theorem dX8_vacatedThen_3 : decode cX8_vacatedThen 3 = .ok (.invokevirtual 42, 3) := by decide +kernel
theorem dX8_vacatedThen_6 : decode cX8_vacatedThen 6 = .ok (.aload_n 0, 1) := by decide +kernel
theorem dX8_vacatedThen_7 : decode cX8_vacatedThen 7 = .ok (.getfield 7, 3) := by decide +kernel
theorem dX8_vacatedThen_10 : decode cX8_vacatedThen 10 = .ok (.bipush 9, 2) := by decide +kernel
theorem dX8_vacatedThen_12 : decode cX8_vacatedThen 12 = .ok (.iaload, 1) := by decide +kernel
theorem dX8_vacatedThen_13 : decode cX8_vacatedThen 13 = .ok (.isub, 1) := by decide +kernel
theorem dX8_vacatedThen_14 : decode cX8_vacatedThen 14 = .ok (.iload_n 2, 1) := by decide +kernel
theorem dX8_vacatedThen_15 : decode cX8_vacatedThen 15 = .ok (.isub, 1) := by decide +kernel
theorem dX8_vacatedThen_16 : decode cX8_vacatedThen 16 = .ok (.istore_n 3, 1) := by decide +kernel
theorem dX8_vacatedThen_17 : decode cX8_vacatedThen 17 = .ok (.aload_n 0, 1) := by decide +kernel
theorem dX8_vacatedThen_18 : decode cX8_vacatedThen 18 = .ok (.iload_n 1, 1) := by decide +kernel
theorem dX8_vacatedThen_19 : decode cX8_vacatedThen 19 = .ok (.invokevirtual 50, 3) := by decide +kernel
theorem dX8_vacatedThen_22 : decode cX8_vacatedThen 22 = .ok (.ifCond .eq 7, 3) := by decide +kernel
theorem dX8_vacatedThen_25 : decode cX8_vacatedThen 25 = .ok (.iload_n 3, 1) := by decide +kernel
theorem dX8_vacatedThen_26 : decode cX8_vacatedThen 26 = .ok (.ifCond .gt 7, 3) := by decide +kernel
theorem dX8_vacatedThen_29 : decode cX8_vacatedThen 29 = .ok (.iconst (-1), 1) := by decide +kernel
theorem dX8_vacatedThen_30 : decode cX8_vacatedThen 30 = .ok (.goto 13, 3) := by decide +kernel
theorem dX8_vacatedThen_33 : decode cX8_vacatedThen 33 = .ok (.aload_n 0, 1) := by decide +kernel
theorem dX8_vacatedThen_34 : decode cX8_vacatedThen 34 = .ok (.iload_n 1, 1) := by decide +kernel
theorem dX8_vacatedThen_35 : decode cX8_vacatedThen 35 = .ok (.aload_n 0, 1) := by decide +kernel
theorem dX8_vacatedThen_36 : decode cX8_vacatedThen 36 = .ok (.iload_n 3, 1) := by decide +kernel
theorem dX8_vacatedThen_37 : decode cX8_vacatedThen 37 = .ok (.invokevirtual 128, 3) := by decide +kernel
theorem dX8_vacatedThen_40 : decode cX8_vacatedThen 40 = .ok (.invokevirtual 65, 3) := by decide +kernel
theorem dX8_vacatedThen_43 : decode cX8_vacatedThen 43 = .ok (.ireturn, 1) := by decide +kernel
theorem dX8_ifVacated_0 : decode cX8_ifVacated 0 = .ok (.aload_n 0, 1) := by decide +kernel
theorem dX8_ifVacated_1 : decode cX8_ifVacated 1 = .ok (.aload_n 0, 1) := by decide +kernel
theorem dX8_ifVacated_2 : decode cX8_ifVacated 2 = .ok (.iload_n 1, 1) := by decide +kernel
theorem dX8_ifVacated_3 : decode cX8_ifVacated 3 = .ok (.invokevirtual 109, 3) := by decide +kernel
theorem dX8_ifVacated_6 : decode cX8_ifVacated 6 = .ok (.ifCond .ne 7, 3) := by decide +kernel
theorem dX8_ifVacated_9 : decode cX8_ifVacated 9 = .ok (.iconst 1, 1) := by decide +kernel
theorem dX8_ifVacated_10 : decode cX8_ifVacated 10 = .ok (.goto 19, 3) := by decide +kernel
theorem dX8_ifVacated_13 : decode cX8_ifVacated 13 = .ok (.iload_n 2, 1) := by decide +kernel
theorem dX8_ifVacated_14 : decode cX8_ifVacated 14 = .ok (.iconst 0, 1) := by decide +kernel
theorem dX8_ifVacated_15 : decode cX8_ifVacated 15 = .ok (.sipush 2000, 3) := by decide +kernel
theorem dX8_ifVacated_18 : decode cX8_ifVacated 18 = .ok (.invokestatic 38, 3) := by decide +kernel
theorem dX8_ifVacated_21 : decode cX8_ifVacated 21 = .ok (.ifCond .eq 7, 3) := by decide +kernel
theorem dX8_ifVacated_24 : decode cX8_ifVacated 24 = .ok (.iconst 0, 1) := by decide +kernel
theorem dX8_ifVacated_25 : decode cX8_ifVacated 25 = .ok (.goto 4, 3) := by decide +kernel
theorem dX8_ifVacated_28 : decode cX8_ifVacated 28 = .ok (.iconst 2, 1) := by decide +kernel
theorem dX8_ifVacated_29 : decode cX8_ifVacated 29 = .ok (.putfield 31, 3) := by decide +kernel
theorem dX8_ifVacated_32 : decode cX8_ifVacated 32 = .ok (.aload_n 0, 1) := by decide +kernel
theorem dX8_ifVacated_33 : decode cX8_ifVacated 33 = .ok (.getfield 31, 3) := by decide +kernel
theorem dX8_ifVacated_36 : decode cX8_ifVacated 36 = .ok (.ifCond .le 7, 3) := by decide +kernel
theorem dX8_ifVacated_39 : decode cX8_ifVacated 39 = .ok (.iconst 0, 1) := by decide +kernel
theorem dX8_ifVacated_40 : decode cX8_ifVacated 40 = .ok (.goto 9, 3) := by decide +kernel
theorem dX8_ifVacated_43 : decode cX8_ifVacated 43 = .ok (.aload_n 0, 1) := by decide +kernel
theorem dX8_ifVacated_44 : decode cX8_ifVacated 44 = .ok (.iload_n 1, 1) := by decide +kernel
theorem dX8_ifVacated_45 : decode cX8_ifVacated 45 = .ok (.iload_n 2, 1) := by decide +kernel
theorem dX8_ifVacated_46 : decode cX8_ifVacated 46 = .ok (.invokevirtual 227, 3) := by decide +kernel
theorem dX8_ifVacated_49 : decode cX8_ifVacated 49 = .ok (.ireturn, 1) := by decide +kernel
theorem dX8_mannableNow_0 : decode cX8_mannableNow 0 = .ok (.aload_n 0, 1) := by decide +kernel
theorem dX8_mannableNow_1 : decode cX8_mannableNow 1 = .ok (.invokevirtual 218, 3) := by decide +kernel
theorem dX8_mannableNow_4 : decode cX8_mannableNow 4 = .ok (.iconst 0, 1) := by decide +kernel
theorem dX8_mannableNow_5 : decode cX8_mannableNow 5 = .ok (.istore_n 1, 1) := by decide +kernel
theorem dX8_mannableNow_6 : decode cX8_mannableNow 6 = .ok (.iconst 0, 1) := by decide +kernel
theorem dX8_mannableNow_7 : decode cX8_mannableNow 7 = .ok (.istore_n 2, 1) := by decide +kernel
theorem dX8_mannableNow_8 : decode cX8_mannableNow 8 = .ok (.iload_n 2, 1) := by decide +kernel
theorem dX8_mannableNow_9 : decode cX8_mannableNow 9 = .ok (.aload_n 0, 1) := by decide +kernel
theorem dX8_mannableNow_10 : decode cX8_mannableNow 10 = .ok (.getfield 7, 3) := by decide +kernel
theorem dX8_mannableNow_13 : decode cX8_mannableNow 13 = .ok (.bipush 8, 2) := by decide +kernel
theorem dX8_mannableNow_15 : decode cX8_mannableNow 15 = .ok (.iaload, 1) := by decide +kernel
theorem dX8_mannableNow_16 : decode cX8_mannableNow 16 = .ok (.if_icmp .ge 64, 3) := by decide +kernel
theorem dX8_mannableNow_19 : decode cX8_mannableNow 19 = .ok (.aload_n 0, 1) := by decide +kernel
theorem dX8_mannableNow_20 : decode cX8_mannableNow 20 = .ok (.iload_n 2, 1) := by decide +kernel
theorem dX8_mannableNow_21 : decode cX8_mannableNow 21 = .ok (.invokevirtual 125, 3) := by decide +kernel
theorem dX8_mannableNow_24 : decode cX8_mannableNow 24 = .ok (.ifCond .eq 50, 3) := by decide +kernel
theorem dX8_mannableNow_27 : decode cX8_mannableNow 27 = .ok (.aload_n 0, 1) := by decide +kernel
theorem dX8_mannableNow_28 : decode cX8_mannableNow 28 = .ok (.iload_n 2, 1) := by decide +kernel
theorem dX8_mannableNow_29 : decode cX8_mannableNow 29 = .ok (.iconst 5, 1) := by decide +kernel
theorem dX8_mannableNow_30 : decode cX8_mannableNow 30 = .ok (.invokevirtual 42, 3) := by decide +kernel
theorem dX8_mannableNow_33 : decode cX8_mannableNow 33 = .ok (.ifCond .ne 41, 3) := by decide +kernel
theorem dX8_mannableNow_36 : decode cX8_mannableNow 36 = .ok (.aload_n 0, 1) := by decide +kernel
theorem dX8_mannableNow_37 : decode cX8_mannableNow 37 = .ok (.iload_n 2, 1) := by decide +kernel
theorem dX8_mannableNow_38 : decode cX8_mannableNow 38 = .ok (.invokevirtual 212, 3) := by decide +kernel
theorem dX8_mannableNow_41 : decode cX8_mannableNow 41 = .ok (.ifCond .eq 33, 3) := by decide +kernel
theorem dX8_mannableNow_44 : decode cX8_mannableNow 44 = .ok (.aload_n 0, 1) := by decide +kernel
theorem dX8_mannableNow_45 : decode cX8_mannableNow 45 = .ok (.aload_n 0, 1) := by decide +kernel
theorem dX8_mannableNow_46 : decode cX8_mannableNow 46 = .ok (.getfield 25, 3) := by decide +kernel
theorem dX8_mannableNow_49 : decode cX8_mannableNow 49 = .ok (.iconst 0, 1) := by decide +kernel
theorem dX8_mannableNow_50 : decode cX8_mannableNow 50 = .ok (.iaload, 1) := by decide +kernel
theorem dX8_mannableNow_51 : decode cX8_mannableNow 51 = .ok (.aload_n 0, 1) := by decide +kernel
theorem dX8_mannableNow_52 : decode cX8_mannableNow 52 = .ok (.getfield 25, 3) := by decide +kernel
theorem dX8_mannableNow_55 : decode cX8_mannableNow 55 = .ok (.iconst 1, 1) := by decide +kernel
theorem dX8_mannableNow_56 : decode cX8_mannableNow 56 = .ok (.iaload, 1) := by decide +kernel
theorem dX8_mannableNow_57 : decode cX8_mannableNow 57 = .ok (.aload_n 0, 1) := by decide +kernel
theorem dX8_mannableNow_58 : decode cX8_mannableNow 58 = .ok (.getfield 25, 3) := by decide +kernel
theorem dX8_mannableNow_61 : decode cX8_mannableNow 61 = .ok (.iconst 2, 1) := by decide +kernel
theorem dX8_mannableNow_62 : decode cX8_mannableNow 62 = .ok (.iaload, 1) := by decide +kernel
theorem dX8_mannableNow_63 : decode cX8_mannableNow 63 = .ok (.invokevirtual 112, 3) := by decide +kernel
theorem dX8_mannableNow_66 : decode cX8_mannableNow 66 = .ok (.aload_n 0, 1) := by decide +kernel
theorem dX8_mannableNow_67 : decode cX8_mannableNow 67 = .ok (.iload_n 2, 1) := by decide +kernel
theorem dX8_mannableNow_68 : decode cX8_mannableNow 68 = .ok (.invokevirtual 121, 3) := by decide +kernel
theorem dX8_mannableNow_71 : decode cX8_mannableNow 71 = .ok (.iinc 1 1, 3) := by decide +kernel
theorem dX8_mannableNow_74 : decode cX8_mannableNow 74 = .ok (.iinc 2 1, 3) := by decide +kernel
theorem dX8_mannableNow_77 : decode cX8_mannableNow 77 = .ok (.goto (-69), 3) := by decide +kernel
theorem dX8_mannableNow_80 : decode cX8_mannableNow 80 = .ok (.aload_n 0, 1) := by decide +kernel
theorem dX8_mannableNow_81 : decode cX8_mannableNow 81 = .ok (.invokevirtual 221, 3) := by decide +kernel
theorem dX8_mannableNow_84 : decode cX8_mannableNow 84 = .ok (.iload_n 1, 1) := by decide +kernel
theorem dX8_mannableNow_85 : decode cX8_mannableNow 85 = .ok (.ireturn, 1) := by decide +kernel
theorem dX8_mannable_0 : decode cX8_mannable 0 = .ok (.aload_n 0, 1) := by decide +kernel
theorem dX8_mannable_1 : decode cX8_mannable 1 = .ok (.iconst 0, 1) := by decide +kernel
theorem dX8_mannable_2 : decode cX8_mannable 2 = .ok (.putfield 31, 3) := by decide +kernel
theorem dX8_mannable_5 : decode cX8_mannable 5 = .ok (.aload_n 0, 1) := by decide +kernel
theorem dX8_mannable_6 : decode cX8_mannable 6 = .ok (.invokevirtual 230, 3) := by decide +kernel
theorem dX8_mannable_9 : decode cX8_mannable 9 = .ok (.ireturn, 1) := by decide +kernel
theorem dX8_missingNow_0 : decode cX8_missingNow 0 = .ok (.iconst 0, 1) := by decide +kernel
theorem dX8_missingNow_1 : decode cX8_missingNow 1 = .ok (.istore_n 2, 1) := by decide +kernel
theorem dX8_missingNow_2 : decode cX8_missingNow 2 = .ok (.iconst 0, 1) := by decide +kernel
theorem dX8_missingNow_3 : decode cX8_missingNow 3 = .ok (.istore_n 3, 1) := by decide +kernel
theorem dX8_missingNow_4 : decode cX8_missingNow 4 = .ok (.iload_n 3, 1) := by decide +kernel
theorem dX8_missingNow_5 : decode cX8_missingNow 5 = .ok (.aload_n 0, 1) := by decide +kernel
theorem dX8_missingNow_6 : decode cX8_missingNow 6 = .ok (.getfield 7, 3) := by decide +kernel
theorem dX8_missingNow_9 : decode cX8_missingNow 9 = .ok (.bipush 7, 2) := by decide +kernel
theorem dX8_missingNow_11 : decode cX8_missingNow 11 = .ok (.iaload, 1) := by decide +kernel
theorem dX8_missingNow_12 : decode cX8_missingNow 12 = .ok (.if_icmp .ge 282, 3) := by decide +kernel
theorem dX8_missingNow_15 : decode cX8_missingNow 15 = .ok (.aload_n 0, 1) := by decide +kernel
theorem dX8_missingNow_16 : decode cX8_missingNow 16 = .ok (.getfield 7, 3) := by decide +kernel
theorem dX8_missingNow_19 : decode cX8_missingNow 19 = .ok (.bipush 23, 2) := by decide +kernel
theorem dX8_missingNow_21 : decode cX8_missingNow 21 = .ok (.iload_n 3, 1) := by decide +kernel
theorem dX8_missingNow_22 : decode cX8_missingNow 22 = .ok (.iadd, 1) := by decide +kernel
theorem dX8_missingNow_23 : decode cX8_missingNow 23 = .ok (.iaload, 1) := by decide +kernel
theorem dX8_missingNow_24 : decode cX8_missingNow 24 = .ok (.iload_n 1, 1) := by decide +kernel
theorem dX8_missingNow_25 : decode cX8_missingNow 25 = .ok (.ishr, 1) := by decide +kernel
theorem dX8_missingNow_26 : decode cX8_missingNow 26 = .ok (.iconst 1, 1) := by decide +kernel
theorem dX8_missingNow_27 : decode cX8_missingNow 27 = .ok (.iand, 1) := by decide +kernel
theorem dX8_missingNow_28 : decode cX8_missingNow 28 = .ok (.iconst 1, 1) := by decide +kernel
theorem dX8_missingNow_29 : decode cX8_missingNow 29 = .ok (.if_icmp .ne 259, 3) := by decide +kernel
theorem dX8_missingNow_32 : decode cX8_missingNow 32 = .ok (.aload_n 0, 1) := by decide +kernel
theorem dX8_missingNow_33 : decode cX8_missingNow 33 = .ok (.getfield 7, 3) := by decide +kernel
theorem dX8_missingNow_36 : decode cX8_missingNow 36 = .ok (.bipush 13, 2) := by decide +kernel
theorem dX8_missingNow_38 : decode cX8_missingNow 38 = .ok (.iload_n 3, 1) := by decide +kernel
theorem dX8_missingNow_39 : decode cX8_missingNow 39 = .ok (.iadd, 1) := by decide +kernel
theorem dX8_missingNow_40 : decode cX8_missingNow 40 = .ok (.iaload, 1) := by decide +kernel
theorem dX8_missingNow_41 : decode cX8_missingNow 41 = .ok (.istore 4, 2) := by decide +kernel
theorem dX8_missingNow_43 : decode cX8_missingNow 43 = .ok (.iload 4, 2) := by decide +kernel
theorem dX8_missingNow_45 : decode cX8_missingNow 45 = .ok (.iconst 1, 1) := by decide +kernel
theorem dX8_missingNow_46 : decode cX8_missingNow 46 = .ok (.iand, 1) := by decide +kernel
theorem dX8_missingNow_47 : decode cX8_missingNow 47 = .ok (.iconst 1, 1) := by decide +kernel
theorem dX8_missingNow_48 : decode cX8_missingNow 48 = .ok (.if_icmp .ne 7, 3) := by decide +kernel
theorem dX8_missingNow_51 : decode cX8_missingNow 51 = .ok (.iconst 1, 1) := by decide +kernel
theorem dX8_missingNow_52 : decode cX8_missingNow 52 = .ok (.goto 4, 3) := by decide +kernel
theorem dX8_missingNow_55 : decode cX8_missingNow 55 = .ok (.iconst 0, 1) := by decide +kernel
theorem dX8_missingNow_56 : decode cX8_missingNow 56 = .ok (.istore 5, 2) := by decide +kernel
theorem dX8_missingNow_58 : decode cX8_missingNow 58 = .ok (.iconst 0, 1) := by decide +kernel
theorem dX8_missingNow_59 : decode cX8_missingNow 59 = .ok (.istore 6, 2) := by decide +kernel
theorem dX8_missingNow_61 : decode cX8_missingNow 61 = .ok (.iload 6, 2) := by decide +kernel
theorem dX8_missingNow_63 : decode cX8_missingNow 63 = .ok (.bipush 100, 2) := by decide +kernel
theorem dX8_missingNow_65 : decode cX8_missingNow 65 = .ok (.if_icmp .ge 209, 3) := by decide +kernel
theorem dX8_missingNow_68 : decode cX8_missingNow 68 = .ok (.iload 6, 2) := by decide +kernel
theorem dX8_missingNow_70 : decode cX8_missingNow 70 = .ok (.bipush 10, 2) := by decide +kernel
theorem dX8_missingNow_72 : decode cX8_missingNow 72 = .ok (.idiv, 1) := by decide +kernel
theorem dX8_missingNow_73 : decode cX8_missingNow 73 = .ok (.istore 7, 2) := by decide +kernel
theorem dX8_missingNow_75 : decode cX8_missingNow 75 = .ok (.iload 6, 2) := by decide +kernel
theorem dX8_missingNow_77 : decode cX8_missingNow 77 = .ok (.bipush 10, 2) := by decide +kernel
theorem dX8_missingNow_79 : decode cX8_missingNow 79 = .ok (.irem, 1) := by decide +kernel
theorem dX8_missingNow_80 : decode cX8_missingNow 80 = .ok (.istore 8, 2) := by decide +kernel
theorem dX8_missingNow_82 : decode cX8_missingNow 82 = .ok (.aload_n 0, 1) := by decide +kernel
theorem dX8_missingNow_83 : decode cX8_missingNow 83 = .ok (.iload 7, 2) := by decide +kernel
theorem dX8_missingNow_85 : decode cX8_missingNow 85 = .ok (.invokevirtual 82, 3) := by decide +kernel
theorem dX8_missingNow_88 : decode cX8_missingNow 88 = .ok (.ifCond .eq 47, 3) := by decide +kernel
theorem dX8_missingNow_91 : decode cX8_missingNow 91 = .ok (.iload 7, 2) := by decide +kernel
theorem dX8_missingNow_93 : decode cX8_missingNow 93 = .ok (.iload_n 3, 1) := by decide +kernel
theorem dX8_missingNow_94 : decode cX8_missingNow 94 = .ok (.if_icmp .eq 41, 3) := by decide +kernel
theorem dX8_missingNow_97 : decode cX8_missingNow 97 = .ok (.aload_n 0, 1) := by decide +kernel
theorem dX8_missingNow_98 : decode cX8_missingNow 98 = .ok (.getfield 7, 3) := by decide +kernel
theorem dX8_missingNow_101 : decode cX8_missingNow 101 = .ok (.bipush 23, 2) := by decide +kernel
theorem dX8_missingNow_103 : decode cX8_missingNow 103 = .ok (.iload 7, 2) := by decide +kernel
theorem dX8_missingNow_105 : decode cX8_missingNow 105 = .ok (.iadd, 1) := by decide +kernel
theorem dX8_missingNow_106 : decode cX8_missingNow 106 = .ok (.iaload, 1) := by decide +kernel
theorem dX8_missingNow_107 : decode cX8_missingNow 107 = .ok (.iload_n 1, 1) := by decide +kernel
theorem dX8_missingNow_108 : decode cX8_missingNow 108 = .ok (.ishr, 1) := by decide +kernel
theorem dX8_missingNow_109 : decode cX8_missingNow 109 = .ok (.iconst 1, 1) := by decide +kernel
theorem dX8_missingNow_110 : decode cX8_missingNow 110 = .ok (.iand, 1) := by decide +kernel
theorem dX8_missingNow_111 : decode cX8_missingNow 111 = .ok (.iconst 1, 1) := by decide +kernel
theorem dX8_missingNow_112 : decode cX8_missingNow 112 = .ok (.if_icmp .ne 23, 3) := by decide +kernel
theorem dX8_missingNow_115 : decode cX8_missingNow 115 = .ok (.aload_n 0, 1) := by decide +kernel
theorem dX8_missingNow_116 : decode cX8_missingNow 116 = .ok (.getfield 7, 3) := by decide +kernel
theorem dX8_missingNow_119 : decode cX8_missingNow 119 = .ok (.bipush 13, 2) := by decide +kernel
theorem dX8_missingNow_121 : decode cX8_missingNow 121 = .ok (.iload 7, 2) := by decide +kernel
theorem dX8_missingNow_123 : decode cX8_missingNow 123 = .ok (.iadd, 1) := by decide +kernel
theorem dX8_missingNow_124 : decode cX8_missingNow 124 = .ok (.iaload, 1) := by decide +kernel
theorem dX8_missingNow_125 : decode cX8_missingNow 125 = .ok (.iload 4, 2) := by decide +kernel
theorem dX8_missingNow_127 : decode cX8_missingNow 127 = .ok (.iand, 1) := by decide +kernel
theorem dX8_missingNow_128 : decode cX8_missingNow 128 = .ok (.ifCond .eq 7, 3) := by decide +kernel
theorem dX8_missingNow_131 : decode cX8_missingNow 131 = .ok (.iconst 1, 1) := by decide +kernel
theorem dX8_missingNow_132 : decode cX8_missingNow 132 = .ok (.goto 4, 3) := by decide +kernel
theorem dX8_missingNow_135 : decode cX8_missingNow 135 = .ok (.iconst 0, 1) := by decide +kernel
theorem dX8_missingNow_136 : decode cX8_missingNow 136 = .ok (.istore 9, 2) := by decide +kernel
theorem dX8_missingNow_138 : decode cX8_missingNow 138 = .ok (.iload 9, 2) := by decide +kernel
theorem dX8_missingNow_140 : decode cX8_missingNow 140 = .ok (.ifCond .eq 71, 3) := by decide +kernel
theorem dX8_missingNow_143 : decode cX8_missingNow 143 = .ok (.aload_n 0, 1) := by decide +kernel
theorem dX8_missingNow_144 : decode cX8_missingNow 144 = .ok (.iload 8, 2) := by decide +kernel
theorem dX8_missingNow_146 : decode cX8_missingNow 146 = .ok (.invokevirtual 82, 3) := by decide +kernel
theorem dX8_missingNow_149 : decode cX8_missingNow 149 = .ok (.ifCond .eq 62, 3) := by decide +kernel
theorem dX8_missingNow_152 : decode cX8_missingNow 152 = .ok (.iload 8, 2) := by decide +kernel
theorem dX8_missingNow_154 : decode cX8_missingNow 154 = .ok (.iload_n 3, 1) := by decide +kernel
theorem dX8_missingNow_155 : decode cX8_missingNow 155 = .ok (.if_icmp .eq 56, 3) := by decide +kernel
theorem dX8_missingNow_158 : decode cX8_missingNow 158 = .ok (.iload 8, 2) := by decide +kernel
theorem dX8_missingNow_160 : decode cX8_missingNow 160 = .ok (.iload 7, 2) := by decide +kernel
theorem dX8_missingNow_162 : decode cX8_missingNow 162 = .ok (.if_icmp .eq 49, 3) := by decide +kernel
theorem dX8_missingNow_165 : decode cX8_missingNow 165 = .ok (.aload_n 0, 1) := by decide +kernel
theorem dX8_missingNow_166 : decode cX8_missingNow 166 = .ok (.getfield 7, 3) := by decide +kernel
theorem dX8_missingNow_169 : decode cX8_missingNow 169 = .ok (.bipush 23, 2) := by decide +kernel
theorem dX8_missingNow_171 : decode cX8_missingNow 171 = .ok (.iload 8, 2) := by decide +kernel
theorem dX8_missingNow_173 : decode cX8_missingNow 173 = .ok (.iadd, 1) := by decide +kernel
theorem dX8_missingNow_174 : decode cX8_missingNow 174 = .ok (.iaload, 1) := by decide +kernel
theorem dX8_missingNow_175 : decode cX8_missingNow 175 = .ok (.iload_n 1, 1) := by decide +kernel
theorem dX8_missingNow_176 : decode cX8_missingNow 176 = .ok (.ishr, 1) := by decide +kernel
theorem dX8_missingNow_177 : decode cX8_missingNow 177 = .ok (.iconst 1, 1) := by decide +kernel
theorem dX8_missingNow_178 : decode cX8_missingNow 178 = .ok (.iand, 1) := by decide +kernel
theorem dX8_missingNow_179 : decode cX8_missingNow 179 = .ok (.iconst 1, 1) := by decide +kernel
theorem dX8_missingNow_180 : decode cX8_missingNow 180 = .ok (.if_icmp .ne 31, 3) := by decide +kernel
theorem dX8_missingNow_183 : decode cX8_missingNow 183 = .ok (.aload_n 0, 1) := by decide +kernel
theorem dX8_missingNow_184 : decode cX8_missingNow 184 = .ok (.getfield 7, 3) := by decide +kernel
theorem dX8_missingNow_187 : decode cX8_missingNow 187 = .ok (.bipush 13, 2) := by decide +kernel
theorem dX8_missingNow_189 : decode cX8_missingNow 189 = .ok (.iload 8, 2) := by decide +kernel
theorem dX8_missingNow_191 : decode cX8_missingNow 191 = .ok (.iadd, 1) := by decide +kernel
theorem dX8_missingNow_192 : decode cX8_missingNow 192 = .ok (.iaload, 1) := by decide +kernel
theorem dX8_missingNow_193 : decode cX8_missingNow 193 = .ok (.aload_n 0, 1) := by decide +kernel
theorem dX8_missingNow_194 : decode cX8_missingNow 194 = .ok (.getfield 7, 3) := by decide +kernel
theorem dX8_missingNow_197 : decode cX8_missingNow 197 = .ok (.bipush 13, 2) := by decide +kernel
theorem dX8_missingNow_199 : decode cX8_missingNow 199 = .ok (.iload 7, 2) := by decide +kernel
theorem dX8_missingNow_201 : decode cX8_missingNow 201 = .ok (.iadd, 1) := by decide +kernel
theorem dX8_missingNow_202 : decode cX8_missingNow 202 = .ok (.iaload, 1) := by decide +kernel
theorem dX8_missingNow_203 : decode cX8_missingNow 203 = .ok (.iand, 1) := by decide +kernel
theorem dX8_missingNow_204 : decode cX8_missingNow 204 = .ok (.ifCond .eq 7, 3) := by decide +kernel
theorem dX8_missingNow_207 : decode cX8_missingNow 207 = .ok (.iconst 1, 1) := by decide +kernel
theorem dX8_missingNow_208 : decode cX8_missingNow 208 = .ok (.goto 4, 3) := by decide +kernel
theorem dX8_missingNow_211 : decode cX8_missingNow 211 = .ok (.iconst 0, 1) := by decide +kernel
theorem dX8_missingNow_212 : decode cX8_missingNow 212 = .ok (.istore 10, 2) := by decide +kernel
theorem dX8_missingNow_214 : decode cX8_missingNow 214 = .ok (.iload 5, 2) := by decide +kernel
theorem dX8_missingNow_216 : decode cX8_missingNow 216 = .ok (.ifCond .ne 45, 3) := by decide +kernel
theorem dX8_missingNow_219 : decode cX8_missingNow 219 = .ok (.iload 9, 2) := by decide +kernel
theorem dX8_missingNow_221 : decode cX8_missingNow 221 = .ok (.ifCond .eq 19, 3) := by decide +kernel
theorem dX8_missingNow_224 : decode cX8_missingNow 224 = .ok (.aload_n 0, 1) := by decide +kernel
theorem dX8_missingNow_225 : decode cX8_missingNow 225 = .ok (.getfield 7, 3) := by decide +kernel
theorem dX8_missingNow_228 : decode cX8_missingNow 228 = .ok (.bipush 13, 2) := by decide +kernel
theorem dX8_missingNow_230 : decode cX8_missingNow 230 = .ok (.iload 7, 2) := by decide +kernel
theorem dX8_missingNow_232 : decode cX8_missingNow 232 = .ok (.iadd, 1) := by decide +kernel
theorem dX8_missingNow_233 : decode cX8_missingNow 233 = .ok (.iaload, 1) := by decide +kernel
theorem dX8_missingNow_234 : decode cX8_missingNow 234 = .ok (.iconst 1, 1) := by decide +kernel
theorem dX8_missingNow_235 : decode cX8_missingNow 235 = .ok (.iand, 1) := by decide +kernel
theorem dX8_missingNow_236 : decode cX8_missingNow 236 = .ok (.iconst 1, 1) := by decide +kernel
theorem dX8_missingNow_237 : decode cX8_missingNow 237 = .ok (.if_icmp .eq 24, 3) := by decide +kernel
theorem dX8_missingNow_240 : decode cX8_missingNow 240 = .ok (.iload 10, 2) := by decide +kernel
theorem dX8_missingNow_242 : decode cX8_missingNow 242 = .ok (.ifCond .eq 23, 3) := by decide +kernel
theorem dX8_missingNow_245 : decode cX8_missingNow 245 = .ok (.aload_n 0, 1) := by decide +kernel
theorem dX8_missingNow_246 : decode cX8_missingNow 246 = .ok (.getfield 7, 3) := by decide +kernel
theorem dX8_missingNow_249 : decode cX8_missingNow 249 = .ok (.bipush 13, 2) := by decide +kernel
theorem dX8_missingNow_251 : decode cX8_missingNow 251 = .ok (.iload 8, 2) := by decide +kernel
theorem dX8_missingNow_253 : decode cX8_missingNow 253 = .ok (.iadd, 1) := by decide +kernel
theorem dX8_missingNow_254 : decode cX8_missingNow 254 = .ok (.iaload, 1) := by decide +kernel
theorem dX8_missingNow_255 : decode cX8_missingNow 255 = .ok (.iconst 1, 1) := by decide +kernel
theorem dX8_missingNow_256 : decode cX8_missingNow 256 = .ok (.iand, 1) := by decide +kernel
theorem dX8_missingNow_257 : decode cX8_missingNow 257 = .ok (.iconst 1, 1) := by decide +kernel
theorem dX8_missingNow_258 : decode cX8_missingNow 258 = .ok (.if_icmp .ne 7, 3) := by decide +kernel
theorem dX8_missingNow_261 : decode cX8_missingNow 261 = .ok (.iconst 1, 1) := by decide +kernel
theorem dX8_missingNow_262 : decode cX8_missingNow 262 = .ok (.goto 4, 3) := by decide +kernel
theorem dX8_missingNow_265 : decode cX8_missingNow 265 = .ok (.iconst 0, 1) := by decide +kernel
theorem dX8_missingNow_266 : decode cX8_missingNow 266 = .ok (.istore 5, 2) := by decide +kernel
theorem dX8_missingNow_268 : decode cX8_missingNow 268 = .ok (.iinc 6 1, 3) := by decide +kernel
theorem dX8_missingNow_271 : decode cX8_missingNow 271 = .ok (.goto (-210), 3) := by decide +kernel
theorem dX8_missingNow_274 : decode cX8_missingNow 274 = .ok (.iload_n 2, 1) := by decide +kernel
theorem dX8_missingNow_275 : decode cX8_missingNow 275 = .ok (.iload 5, 2) := by decide +kernel
theorem dX8_missingNow_277 : decode cX8_missingNow 277 = .ok (.ifCond .eq 8, 3) := by decide +kernel
theorem dX8_missingNow_280 : decode cX8_missingNow 280 = .ok (.iload 4, 2) := by decide +kernel
theorem dX8_missingNow_282 : decode cX8_missingNow 282 = .ok (.goto 4, 3) := by decide +kernel
theorem dX8_missingNow_285 : decode cX8_missingNow 285 = .ok (.iconst 0, 1) := by decide +kernel
theorem dX8_missingNow_286 : decode cX8_missingNow 286 = .ok (.ior, 1) := by decide +kernel
theorem dX8_missingNow_287 : decode cX8_missingNow 287 = .ok (.istore_n 2, 1) := by decide +kernel
theorem dX8_missingNow_288 : decode cX8_missingNow 288 = .ok (.iinc 3 1, 3) := by decide +kernel
theorem dX8_missingNow_291 : decode cX8_missingNow 291 = .ok (.goto (-287), 3) := by decide +kernel
theorem dX8_missingNow_294 : decode cX8_missingNow 294 = .ok (.sipush 1022, 3) := by decide +kernel
theorem dX8_missingNow_297 : decode cX8_missingNow 297 = .ok (.iload_n 2, 1) := by decide +kernel
theorem dX8_missingNow_298 : decode cX8_missingNow 298 = .ok (.iconst (-1), 1) := by decide +kernel
theorem dX8_missingNow_299 : decode cX8_missingNow 299 = .ok (.ixor, 1) := by decide +kernel
theorem dX8_missingNow_300 : decode cX8_missingNow 300 = .ok (.iand, 1) := by decide +kernel
theorem dX8_missingNow_301 : decode cX8_missingNow 301 = .ok (.ireturn, 1) := by decide +kernel
theorem dX8_missing_0 : decode cX8_missing 0 = .ok (.aload_n 0, 1) := by decide +kernel
theorem dX8_missing_1 : decode cX8_missing 1 = .ok (.iload_n 1, 1) := by decide +kernel
theorem dX8_missing_2 : decode cX8_missing 2 = .ok (.iconst 0, 1) := by decide +kernel
theorem dX8_missing_3 : decode cX8_missing 3 = .ok (.iconst 2, 1) := by decide +kernel
theorem dX8_missing_4 : decode cX8_missing 4 = .ok (.invokestatic 38, 3) := by decide +kernel
theorem dX8_missing_7 : decode cX8_missing 7 = .ok (.ifCond .eq 7, 3) := by decide +kernel
theorem dX8_missing_10 : decode cX8_missing 10 = .ok (.iconst 0, 1) := by decide +kernel
theorem dX8_missing_11 : decode cX8_missing 11 = .ok (.goto 4, 3) := by decide +kernel
theorem dX8_missing_14 : decode cX8_missing 14 = .ok (.iconst 1, 1) := by decide +kernel
theorem dX8_missing_15 : decode cX8_missing 15 = .ok (.putfield 31, 3) := by decide +kernel
theorem dX8_missing_18 : decode cX8_missing 18 = .ok (.aload_n 0, 1) := by decide +kernel
theorem dX8_missing_19 : decode cX8_missing 19 = .ok (.getfield 31, 3) := by decide +kernel
theorem dX8_missing_22 : decode cX8_missing 22 = .ok (.ifCond .le 7, 3) := by decide +kernel
theorem dX8_missing_25 : decode cX8_missing 25 = .ok (.iconst 0, 1) := by decide +kernel
theorem dX8_missing_26 : decode cX8_missing 26 = .ok (.goto 8, 3) := by decide +kernel
theorem dX8_missing_29 : decode cX8_missing 29 = .ok (.aload_n 0, 1) := by decide +kernel
theorem dX8_missing_30 : decode cX8_missing 30 = .ok (.iload_n 1, 1) := by decide +kernel
theorem dX8_missing_31 : decode cX8_missing 31 = .ok (.invokevirtual 233, 3) := by decide +kernel
theorem dX8_missing_34 : decode cX8_missing 34 = .ok (.ireturn, 1) := by decide +kernel
theorem dX8_share_0 : decode cX8_share 0 = .ok (.aload_n 0, 1) := by decide +kernel
theorem dX8_share_1 : decode cX8_share 1 = .ok (.getfield 7, 3) := by decide +kernel
theorem dX8_share_4 : decode cX8_share 4 = .ok (.bipush 10, 2) := by decide +kernel
theorem dX8_share_6 : decode cX8_share 6 = .ok (.iaload, 1) := by decide +kernel
theorem dX8_share_7 : decode cX8_share 7 = .ok (.ifCond .ne 7, 3) := by decide +kernel
theorem dX8_share_10 : decode cX8_share 10 = .ok (.dconst 0, 1) := by decide +kernel
theorem dX8_share_11 : decode cX8_share 11 = .ok (.goto 36, 3) := by decide +kernel
theorem dX8_share_14 : decode cX8_share 14 = .ok (.aload_n 0, 1) := by decide +kernel
theorem dX8_share_15 : decode cX8_share 15 = .ok (.getfield 7, 3) := by decide +kernel
theorem dX8_share_18 : decode cX8_share 18 = .ok (.bipush 10, 2) := by decide +kernel
theorem dX8_share_20 : decode cX8_share 20 = .ok (.iaload, 1) := by decide +kernel
theorem dX8_share_21 : decode cX8_share 21 = .ok (.aload_n 0, 1) := by decide +kernel
theorem dX8_share_22 : decode cX8_share 22 = .ok (.getfield 7, 3) := by decide +kernel
theorem dX8_share_25 : decode cX8_share 25 = .ok (.bipush 11, 2) := by decide +kernel
theorem dX8_share_27 : decode cX8_share 27 = .ok (.iaload, 1) := by decide +kernel
theorem dX8_share_28 : decode cX8_share 28 = .ok (.isub, 1) := by decide +kernel
theorem dX8_share_29 : decode cX8_share 29 = .ok (.aload_n 0, 1) := by decide +kernel
theorem dX8_share_30 : decode cX8_share 30 = .ok (.getfield 7, 3) := by decide +kernel
theorem dX8_share_33 : decode cX8_share 33 = .ok (.bipush 12, 2) := by decide +kernel
theorem dX8_share_35 : decode cX8_share 35 = .ok (.iaload, 1) := by decide +kernel
theorem dX8_share_36 : decode cX8_share 36 = .ok (.isub, 1) := by decide +kernel
theorem dX8_share_37 : decode cX8_share 37 = .ok (.i2d, 1) := by decide +kernel
theorem dX8_share_38 : decode cX8_share 38 = .ok (.aload_n 0, 1) := by decide +kernel
theorem dX8_share_39 : decode cX8_share 39 = .ok (.getfield 7, 3) := by decide +kernel
theorem dX8_share_42 : decode cX8_share 42 = .ok (.bipush 10, 2) := by decide +kernel
theorem dX8_share_44 : decode cX8_share 44 = .ok (.iaload, 1) := by decide +kernel
theorem dX8_share_45 : decode cX8_share 45 = .ok (.i2d, 1) := by decide +kernel
theorem dX8_share_46 : decode cX8_share 46 = .ok (.ddiv, 1) := by decide +kernel
theorem dX8_share_47 : decode cX8_share 47 = .ok (.dreturn, 1) := by decide +kernel
theorem dX8_doneShare_0 : decode cX8_doneShare 0 = .ok (.aload_n 0, 1) := by decide +kernel
theorem dX8_doneShare_1 : decode cX8_doneShare 1 = .ok (.iconst 0, 1) := by decide +kernel
theorem dX8_doneShare_2 : decode cX8_doneShare 2 = .ok (.putfield 31, 3) := by decide +kernel
theorem dX8_doneShare_5 : decode cX8_doneShare 5 = .ok (.aload_n 0, 1) := by decide +kernel
theorem dX8_doneShare_6 : decode cX8_doneShare 6 = .ok (.invokevirtual 236, 3) := by decide +kernel
theorem dX8_doneShare_9 : decode cX8_doneShare 9 = .ok (.dreturn, 1) := by decide +kernel
theorem dX8_mix_0 : decode cX8_mix 0 = .ok (.aload_n 0, 1) := by decide +kernel
theorem dX8_mix_1 : decode cX8_mix 1 = .ok (.ldc2_w 240, 3) := by decide +kernel
theorem dX8_mix_4 : decode cX8_mix 4 = .ok (.aload_n 0, 1) := by decide +kernel
theorem dX8_mix_5 : decode cX8_mix 5 = .ok (.getfield 242, 3) := by decide +kernel
theorem dX8_mix_8 : decode cX8_mix 8 = .ok (.lmul, 1) := by decide +kernel
theorem dX8_mix_9 : decode cX8_mix 9 = .ok (.lload_n 1, 1) := by decide +kernel
theorem dX8_mix_10 : decode cX8_mix 10 = .ok (.ladd, 1) := by decide +kernel
theorem dX8_mix_11 : decode cX8_mix 11 = .ok (.putfield 242, 3) := by decide +kernel
theorem dX8_mix_14 : decode cX8_mix 14 = .ok (.return_, 1) := by decide +kernel
theorem dX8_mixHearing_0 : decode cX8_mixHearing 0 = .ok (.iconst 0, 1) := by decide +kernel
theorem dX8_mixHearing_1 : decode cX8_mixHearing 1 = .ok (.istore_n 2, 1) := by decide +kernel
theorem dX8_mixHearing_2 : decode cX8_mixHearing 2 = .ok (.iload_n 2, 1) := by decide +kernel
theorem dX8_mixHearing_3 : decode cX8_mixHearing 3 = .ok (.bipush 12, 2) := by decide +kernel
theorem dX8_mixHearing_5 : decode cX8_mixHearing 5 = .ok (.if_icmp .ge 20, 3) := by decide +kernel
theorem dX8_mixHearing_8 : decode cX8_mixHearing 8 = .ok (.aload_n 0, 1) := by decide +kernel
theorem dX8_mixHearing_9 : decode cX8_mixHearing 9 = .ok (.aload_n 0, 1) := by decide +kernel
theorem dX8_mixHearing_10 : decode cX8_mixHearing 10 = .ok (.iload_n 1, 1) := by decide +kernel
theorem dX8_mixHearing_11 : decode cX8_mixHearing 11 = .ok (.iload_n 2, 1) := by decide +kernel
theorem dX8_mixHearing_12 : decode cX8_mixHearing 12 = .ok (.invokevirtual 189, 3) := by decide +kernel
theorem dX8_mixHearing_15 : decode cX8_mixHearing 15 = .ok (.i2l, 1) := by decide +kernel
theorem dX8_mixHearing_16 : decode cX8_mixHearing 16 = .ok (.invokevirtual 246, 3) := by decide +kernel
theorem dX8_mixHearing_19 : decode cX8_mixHearing 19 = .ok (.iinc 2 1, 3) := by decide +kernel
theorem dX8_mixHearing_22 : decode cX8_mixHearing 22 = .ok (.goto (-20), 3) := by decide +kernel
theorem dX8_mixHearing_25 : decode cX8_mixHearing 25 = .ok (.iconst 0, 1) := by decide +kernel
theorem dX8_mixHearing_26 : decode cX8_mixHearing 26 = .ok (.istore_n 2, 1) := by decide +kernel
theorem dX8_mixHearing_27 : decode cX8_mixHearing 27 = .ok (.iload_n 2, 1) := by decide +kernel
theorem dX8_mixHearing_28 : decode cX8_mixHearing 28 = .ok (.iconst 5, 1) := by decide +kernel
theorem dX8_mixHearing_29 : decode cX8_mixHearing 29 = .ok (.if_icmp .ge 20, 3) := by decide +kernel
theorem dX8_mixHearing_32 : decode cX8_mixHearing 32 = .ok (.aload_n 0, 1) := by decide +kernel
theorem dX8_mixHearing_33 : decode cX8_mixHearing 33 = .ok (.aload_n 0, 1) := by decide +kernel
theorem dX8_mixHearing_34 : decode cX8_mixHearing 34 = .ok (.iload_n 1, 1) := by decide +kernel
theorem dX8_mixHearing_35 : decode cX8_mixHearing 35 = .ok (.iload_n 2, 1) := by decide +kernel
theorem dX8_mixHearing_36 : decode cX8_mixHearing 36 = .ok (.invokevirtual 215, 3) := by decide +kernel
theorem dX8_mixHearing_39 : decode cX8_mixHearing 39 = .ok (.i2l, 1) := by decide +kernel
theorem dX8_mixHearing_40 : decode cX8_mixHearing 40 = .ok (.invokevirtual 246, 3) := by decide +kernel
theorem dX8_mixHearing_43 : decode cX8_mixHearing 43 = .ok (.iinc 2 1, 3) := by decide +kernel
theorem dX8_mixHearing_46 : decode cX8_mixHearing 46 = .ok (.goto (-19), 3) := by decide +kernel
theorem dX8_mixHearing_49 : decode cX8_mixHearing 49 = .ok (.aload_n 0, 1) := by decide +kernel
theorem dX8_mixHearing_50 : decode cX8_mixHearing 50 = .ok (.aload_n 0, 1) := by decide +kernel
theorem dX8_mixHearing_51 : decode cX8_mixHearing 51 = .ok (.iload_n 1, 1) := by decide +kernel
theorem dX8_mixHearing_52 : decode cX8_mixHearing 52 = .ok (.iconst 0, 1) := by decide +kernel
theorem dX8_mixHearing_53 : decode cX8_mixHearing 53 = .ok (.invokevirtual 227, 3) := by decide +kernel
theorem dX8_mixHearing_56 : decode cX8_mixHearing 56 = .ok (.i2l, 1) := by decide +kernel
theorem dX8_mixHearing_57 : decode cX8_mixHearing 57 = .ok (.invokevirtual 246, 3) := by decide +kernel
theorem dX8_mixHearing_60 : decode cX8_mixHearing 60 = .ok (.return_, 1) := by decide +kernel
theorem dX8_digest_0 : decode cX8_digest 0 = .ok (.aload_n 0, 1) := by decide +kernel
theorem dX8_digest_1 : decode cX8_digest 1 = .ok (.iconst 0, 1) := by decide +kernel
theorem dX8_digest_2 : decode cX8_digest 2 = .ok (.putfield 31, 3) := by decide +kernel
theorem dX8_digest_5 : decode cX8_digest 5 = .ok (.aload_n 0, 1) := by decide +kernel
theorem dX8_digest_6 : decode cX8_digest 6 = .ok (.ldc2_w 250, 3) := by decide +kernel
theorem dX8_digest_9 : decode cX8_digest 9 = .ok (.putfield 242, 3) := by decide +kernel
theorem dX8_digest_12 : decode cX8_digest 12 = .ok (.iconst 0, 1) := by decide +kernel
theorem dX8_digest_13 : decode cX8_digest 13 = .ok (.istore_n 1, 1) := by decide +kernel
theorem dX8_digest_14 : decode cX8_digest 14 = .ok (.iload_n 1, 1) := by decide +kernel
theorem dX8_digest_15 : decode cX8_digest 15 = .ok (.bipush 13, 2) := by decide +kernel
theorem dX8_digest_17 : decode cX8_digest 17 = .ok (.if_icmp .ge 19, 3) := by decide +kernel
theorem dX8_digest_20 : decode cX8_digest 20 = .ok (.aload_n 0, 1) := by decide +kernel
theorem dX8_digest_21 : decode cX8_digest 21 = .ok (.aload_n 0, 1) := by decide +kernel
theorem dX8_digest_22 : decode cX8_digest 22 = .ok (.iload_n 1, 1) := by decide +kernel
theorem dX8_digest_23 : decode cX8_digest 23 = .ok (.invokevirtual 199, 3) := by decide +kernel
theorem dX8_digest_26 : decode cX8_digest 26 = .ok (.i2l, 1) := by decide +kernel
theorem dX8_digest_27 : decode cX8_digest 27 = .ok (.invokevirtual 246, 3) := by decide +kernel
theorem dX8_digest_30 : decode cX8_digest 30 = .ok (.iinc 1 1, 3) := by decide +kernel
theorem dX8_digest_33 : decode cX8_digest 33 = .ok (.goto (-19), 3) := by decide +kernel
theorem dX8_digest_36 : decode cX8_digest 36 = .ok (.iconst 0, 1) := by decide +kernel
theorem dX8_digest_37 : decode cX8_digest 37 = .ok (.istore_n 1, 1) := by decide +kernel
theorem dX8_digest_38 : decode cX8_digest 38 = .ok (.iload_n 1, 1) := by decide +kernel
theorem dX8_digest_39 : decode cX8_digest 39 = .ok (.bipush 7, 2) := by decide +kernel
theorem dX8_digest_41 : decode cX8_digest 41 = .ok (.if_icmp .ge 22, 3) := by decide +kernel
theorem dX8_digest_44 : decode cX8_digest 44 = .ok (.aload_n 0, 1) := by decide +kernel
theorem dX8_digest_45 : decode cX8_digest 45 = .ok (.aload_n 0, 1) := by decide +kernel
theorem dX8_digest_46 : decode cX8_digest 46 = .ok (.getfield 7, 3) := by decide +kernel
theorem dX8_digest_49 : decode cX8_digest 49 = .ok (.iconst 0, 1) := by decide +kernel
theorem dX8_digest_50 : decode cX8_digest 50 = .ok (.iload_n 1, 1) := by decide +kernel
theorem dX8_digest_51 : decode cX8_digest 51 = .ok (.iadd, 1) := by decide +kernel
theorem dX8_digest_52 : decode cX8_digest 52 = .ok (.iaload, 1) := by decide +kernel
theorem dX8_digest_53 : decode cX8_digest 53 = .ok (.i2l, 1) := by decide +kernel
theorem dX8_digest_54 : decode cX8_digest 54 = .ok (.invokevirtual 246, 3) := by decide +kernel
theorem dX8_digest_57 : decode cX8_digest 57 = .ok (.iinc 1 1, 3) := by decide +kernel
theorem dX8_digest_60 : decode cX8_digest 60 = .ok (.goto (-22), 3) := by decide +kernel
theorem dX8_digest_63 : decode cX8_digest 63 = .ok (.iconst 0, 1) := by decide +kernel
theorem dX8_digest_64 : decode cX8_digest 64 = .ok (.istore_n 1, 1) := by decide +kernel
theorem dX8_digest_65 : decode cX8_digest 65 = .ok (.iload_n 1, 1) := by decide +kernel
theorem dX8_digest_66 : decode cX8_digest 66 = .ok (.aload_n 0, 1) := by decide +kernel
theorem dX8_digest_67 : decode cX8_digest 67 = .ok (.getfield 7, 3) := by decide +kernel
theorem dX8_digest_70 : decode cX8_digest 70 = .ok (.bipush 7, 2) := by decide +kernel
theorem dX8_digest_72 : decode cX8_digest 72 = .ok (.iaload, 1) := by decide +kernel
theorem dX8_digest_73 : decode cX8_digest 73 = .ok (.if_icmp .ge 46, 3) := by decide +kernel
theorem dX8_digest_76 : decode cX8_digest 76 = .ok (.iconst 0, 1) := by decide +kernel
theorem dX8_digest_77 : decode cX8_digest 77 = .ok (.istore_n 2, 1) := by decide +kernel
theorem dX8_digest_78 : decode cX8_digest 78 = .ok (.iload_n 2, 1) := by decide +kernel
theorem dX8_digest_79 : decode cX8_digest 79 = .ok (.bipush 8, 2) := by decide +kernel
theorem dX8_digest_81 : decode cX8_digest 81 = .ok (.if_icmp .ge 20, 3) := by decide +kernel
theorem dX8_digest_84 : decode cX8_digest 84 = .ok (.aload_n 0, 1) := by decide +kernel
theorem dX8_digest_85 : decode cX8_digest 85 = .ok (.aload_n 0, 1) := by decide +kernel
theorem dX8_digest_86 : decode cX8_digest 86 = .ok (.iload_n 1, 1) := by decide +kernel
theorem dX8_digest_87 : decode cX8_digest 87 = .ok (.iload_n 2, 1) := by decide +kernel
theorem dX8_digest_88 : decode cX8_digest 88 = .ok (.invokevirtual 183, 3) := by decide +kernel
theorem dX8_digest_91 : decode cX8_digest 91 = .ok (.i2l, 1) := by decide +kernel
theorem dX8_digest_92 : decode cX8_digest 92 = .ok (.invokevirtual 246, 3) := by decide +kernel
theorem dX8_digest_95 : decode cX8_digest 95 = .ok (.iinc 2 1, 3) := by decide +kernel
theorem dX8_digest_98 : decode cX8_digest 98 = .ok (.goto (-20), 3) := by decide +kernel
theorem dX8_digest_101 : decode cX8_digest 101 = .ok (.aload_n 0, 1) := by decide +kernel
theorem dX8_digest_102 : decode cX8_digest 102 = .ok (.aload_n 0, 1) := by decide +kernel
theorem dX8_digest_103 : decode cX8_digest 103 = .ok (.iload_n 1, 1) := by decide +kernel
theorem dX8_digest_104 : decode cX8_digest 104 = .ok (.bipush 60, 2) := by decide +kernel
theorem dX8_digest_106 : decode cX8_digest 106 = .ok (.invokevirtual 224, 3) := by decide +kernel
theorem dX8_digest_109 : decode cX8_digest 109 = .ok (.i2l, 1) := by decide +kernel
theorem dX8_digest_110 : decode cX8_digest 110 = .ok (.invokevirtual 246, 3) := by decide +kernel
theorem dX8_digest_113 : decode cX8_digest 113 = .ok (.iinc 1 1, 3) := by decide +kernel
theorem dX8_digest_116 : decode cX8_digest 116 = .ok (.goto (-51), 3) := by decide +kernel
theorem dX8_digest_119 : decode cX8_digest 119 = .ok (.iconst 0, 1) := by decide +kernel
theorem dX8_digest_120 : decode cX8_digest 120 = .ok (.istore_n 1, 1) := by decide +kernel
theorem dX8_digest_121 : decode cX8_digest 121 = .ok (.iload_n 1, 1) := by decide +kernel
theorem dX8_digest_122 : decode cX8_digest 122 = .ok (.aload_n 0, 1) := by decide +kernel
theorem dX8_digest_123 : decode cX8_digest 123 = .ok (.getfield 7, 3) := by decide +kernel
theorem dX8_digest_126 : decode cX8_digest 126 = .ok (.bipush 8, 2) := by decide +kernel
theorem dX8_digest_128 : decode cX8_digest 128 = .ok (.iaload, 1) := by decide +kernel
theorem dX8_digest_129 : decode cX8_digest 129 = .ok (.if_icmp .ge 14, 3) := by decide +kernel
theorem dX8_digest_132 : decode cX8_digest 132 = .ok (.aload_n 0, 1) := by decide +kernel
theorem dX8_digest_133 : decode cX8_digest 133 = .ok (.iload_n 1, 1) := by decide +kernel
theorem dX8_digest_134 : decode cX8_digest 134 = .ok (.invokevirtual 252, 3) := by decide +kernel
theorem dX8_digest_137 : decode cX8_digest 137 = .ok (.iinc 1 1, 3) := by decide +kernel
theorem dX8_digest_140 : decode cX8_digest 140 = .ok (.goto (-19), 3) := by decide +kernel
theorem dX8_digest_143 : decode cX8_digest 143 = .ok (.aload_n 0, 1) := by decide +kernel
theorem dX8_digest_144 : decode cX8_digest 144 = .ok (.aload_n 0, 1) := by decide +kernel
theorem dX8_digest_145 : decode cX8_digest 145 = .ok (.invokevirtual 230, 3) := by decide +kernel
theorem dX8_digest_148 : decode cX8_digest 148 = .ok (.i2l, 1) := by decide +kernel
theorem dX8_digest_149 : decode cX8_digest 149 = .ok (.invokevirtual 246, 3) := by decide +kernel
theorem dX8_digest_152 : decode cX8_digest 152 = .ok (.iconst 0, 1) := by decide +kernel
theorem dX8_digest_153 : decode cX8_digest 153 = .ok (.istore_n 1, 1) := by decide +kernel
theorem dX8_digest_154 : decode cX8_digest 154 = .ok (.iload_n 1, 1) := by decide +kernel
theorem dX8_digest_155 : decode cX8_digest 155 = .ok (.iconst 3, 1) := by decide +kernel
theorem dX8_digest_156 : decode cX8_digest 156 = .ok (.if_icmp .ge 19, 3) := by decide +kernel
theorem dX8_digest_159 : decode cX8_digest 159 = .ok (.aload_n 0, 1) := by decide +kernel
theorem dX8_digest_160 : decode cX8_digest 160 = .ok (.aload_n 0, 1) := by decide +kernel
theorem dX8_digest_161 : decode cX8_digest 161 = .ok (.iload_n 1, 1) := by decide +kernel
theorem dX8_digest_162 : decode cX8_digest 162 = .ok (.invokevirtual 233, 3) := by decide +kernel
theorem dX8_digest_165 : decode cX8_digest 165 = .ok (.i2l, 1) := by decide +kernel
theorem dX8_digest_166 : decode cX8_digest 166 = .ok (.invokevirtual 246, 3) := by decide +kernel
theorem dX8_digest_169 : decode cX8_digest 169 = .ok (.iinc 1 1, 3) := by decide +kernel
theorem dX8_digest_172 : decode cX8_digest 172 = .ok (.goto (-18), 3) := by decide +kernel
theorem dX8_digest_175 : decode cX8_digest 175 = .ok (.aload_n 0, 1) := by decide +kernel
theorem dX8_digest_176 : decode cX8_digest 176 = .ok (.aload_n 0, 1) := by decide +kernel
theorem dX8_digest_177 : decode cX8_digest 177 = .ok (.invokevirtual 236, 3) := by decide +kernel
theorem dX8_digest_180 : decode cX8_digest 180 = .ok (.invokestatic 255, 3) := by decide +kernel
theorem dX8_digest_183 : decode cX8_digest 183 = .ok (.invokevirtual 246, 3) := by decide +kernel
theorem dX8_digest_186 : decode cX8_digest 186 = .ok (.aload_n 0, 1) := by decide +kernel
theorem dX8_digest_187 : decode cX8_digest 187 = .ok (.aload_n 0, 1) := by decide +kernel
theorem dX8_digest_188 : decode cX8_digest 188 = .ok (.getfield 153, 3) := by decide +kernel
theorem dX8_digest_191 : decode cX8_digest 191 = .ok (.i2l, 1) := by decide +kernel
theorem dX8_digest_192 : decode cX8_digest 192 = .ok (.invokevirtual 246, 3) := by decide +kernel
theorem dX8_digest_195 : decode cX8_digest 195 = .ok (.iconst 0, 1) := by decide +kernel
theorem dX8_digest_196 : decode cX8_digest 196 = .ok (.istore_n 1, 1) := by decide +kernel
theorem dX8_digest_197 : decode cX8_digest 197 = .ok (.iload_n 1, 1) := by decide +kernel
theorem dX8_digest_198 : decode cX8_digest 198 = .ok (.aload_n 0, 1) := by decide +kernel
theorem dX8_digest_199 : decode cX8_digest 199 = .ok (.getfield 153, 3) := by decide +kernel
theorem dX8_digest_202 : decode cX8_digest 202 = .ok (.if_icmp .ge 20, 3) := by decide +kernel
theorem dX8_digest_205 : decode cX8_digest 205 = .ok (.aload_n 0, 1) := by decide +kernel
theorem dX8_digest_206 : decode cX8_digest 206 = .ok (.aload_n 0, 1) := by decide +kernel
theorem dX8_digest_207 : decode cX8_digest 207 = .ok (.getfield 16, 3) := by decide +kernel
theorem dX8_digest_210 : decode cX8_digest 210 = .ok (.iload_n 1, 1) := by decide +kernel
theorem dX8_digest_211 : decode cX8_digest 211 = .ok (.iaload, 1) := by decide +kernel
theorem dX8_digest_212 : decode cX8_digest 212 = .ok (.i2l, 1) := by decide +kernel
theorem dX8_digest_213 : decode cX8_digest 213 = .ok (.invokevirtual 246, 3) := by decide +kernel
theorem dX8_digest_216 : decode cX8_digest 216 = .ok (.iinc 1 1, 3) := by decide +kernel
theorem dX8_digest_219 : decode cX8_digest 219 = .ok (.goto (-22), 3) := by decide +kernel
theorem dX8_digest_222 : decode cX8_digest 222 = .ok (.aload_n 0, 1) := by decide +kernel
theorem dX8_digest_223 : decode cX8_digest 223 = .ok (.getfield 242, 3) := by decide +kernel
theorem dX8_digest_226 : decode cX8_digest 226 = .ok (.lreturn, 1) := by decide +kernel
theorem dJxe99ae_isNaN_b9ae7_0 : decode cJxe99ae_isNaN_b9ae7 0 = .ok (.dload_n 0, 1) := by decide +kernel
theorem dJxe99ae_isNaN_b9ae7_1 : decode cJxe99ae_isNaN_b9ae7 1 = .ok (.dload_n 0, 1) := by decide +kernel
theorem dJxe99ae_isNaN_b9ae7_2 : decode cJxe99ae_isNaN_b9ae7 2 = .ok (.dcmp .l, 1) := by decide +kernel
theorem dJxe99ae_isNaN_b9ae7_3 : decode cJxe99ae_isNaN_b9ae7 3 = .ok (.ifCond .eq 7, 3) := by decide +kernel
theorem dJxe99ae_isNaN_b9ae7_6 : decode cJxe99ae_isNaN_b9ae7 6 = .ok (.iconst 1, 1) := by decide +kernel
theorem dJxe99ae_isNaN_b9ae7_7 : decode cJxe99ae_isNaN_b9ae7 7 = .ok (.goto 4, 3) := by decide +kernel
theorem dJxe99ae_isNaN_b9ae7_10 : decode cJxe99ae_isNaN_b9ae7 10 = .ok (.iconst 0, 1) := by decide +kernel
theorem dJxe99ae_isNaN_b9ae7_11 : decode cJxe99ae_isNaN_b9ae7 11 = .ok (.ireturn, 1) := by decide +kernel
theorem dJxe99ae_doubleToLongBits_ccdee_0 : decode cJxe99ae_doubleToLongBits_ccdee 0 = .ok (.dload_n 0, 1) := by decide +kernel
theorem dJxe99ae_doubleToLongBits_ccdee_1 : decode cJxe99ae_doubleToLongBits_ccdee 1 = .ok (.invokestatic 122, 3) := by decide +kernel
theorem dJxe99ae_doubleToLongBits_ccdee_4 : decode cJxe99ae_doubleToLongBits_ccdee 4 = .ok (.ifCond .ne 8, 3) := by decide +kernel
theorem dJxe99ae_doubleToLongBits_ccdee_7 : decode cJxe99ae_doubleToLongBits_ccdee 7 = .ok (.dload_n 0, 1) := by decide +kernel
theorem dJxe99ae_doubleToLongBits_ccdee_8 : decode cJxe99ae_doubleToLongBits_ccdee 8 = .ok (.invokestatic 134, 3) := by decide +kernel
theorem dJxe99ae_doubleToLongBits_ccdee_11 : decode cJxe99ae_doubleToLongBits_ccdee 11 = .ok (.lreturn, 1) := by decide +kernel
theorem dJxe99ae_doubleToLongBits_ccdee_12 : decode cJxe99ae_doubleToLongBits_ccdee 12 = .ok (.ldc2_w 137, 3) := by decide +kernel
theorem dJxe99ae_doubleToLongBits_ccdee_15 : decode cJxe99ae_doubleToLongBits_ccdee 15 = .ok (.lreturn, 1) := by decide +kernel
theorem dJ6_bitCount_0f7a4_0 : decode cJ6_bitCount_0f7a4 0 = .ok (.iload_n 0, 1) := by decide +kernel
theorem dJ6_bitCount_0f7a4_1 : decode cJ6_bitCount_0f7a4 1 = .ok (.iload_n 0, 1) := by decide +kernel
theorem dJ6_bitCount_0f7a4_2 : decode cJ6_bitCount_0f7a4 2 = .ok (.iconst 1, 1) := by decide +kernel
theorem dJ6_bitCount_0f7a4_3 : decode cJ6_bitCount_0f7a4 3 = .ok (.iushr, 1) := by decide +kernel
theorem dJ6_bitCount_0f7a4_4 : decode cJ6_bitCount_0f7a4 4 = .ok (.ldc_w 265, 3) := by decide +kernel
theorem dJ6_bitCount_0f7a4_7 : decode cJ6_bitCount_0f7a4 7 = .ok (.iand, 1) := by decide +kernel
theorem dJ6_bitCount_0f7a4_8 : decode cJ6_bitCount_0f7a4 8 = .ok (.isub, 1) := by decide +kernel
theorem dJ6_bitCount_0f7a4_9 : decode cJ6_bitCount_0f7a4 9 = .ok (.istore_n 0, 1) := by decide +kernel
theorem dJ6_bitCount_0f7a4_10 : decode cJ6_bitCount_0f7a4 10 = .ok (.iload_n 0, 1) := by decide +kernel
theorem dJ6_bitCount_0f7a4_11 : decode cJ6_bitCount_0f7a4 11 = .ok (.ldc_w 266, 3) := by decide +kernel
theorem dJ6_bitCount_0f7a4_14 : decode cJ6_bitCount_0f7a4 14 = .ok (.iand, 1) := by decide +kernel
theorem dJ6_bitCount_0f7a4_15 : decode cJ6_bitCount_0f7a4 15 = .ok (.iload_n 0, 1) := by decide +kernel
theorem dJ6_bitCount_0f7a4_16 : decode cJ6_bitCount_0f7a4 16 = .ok (.iconst 2, 1) := by decide +kernel
theorem dJ6_bitCount_0f7a4_17 : decode cJ6_bitCount_0f7a4 17 = .ok (.iushr, 1) := by decide +kernel
theorem dJ6_bitCount_0f7a4_18 : decode cJ6_bitCount_0f7a4 18 = .ok (.ldc_w 266, 3) := by decide +kernel
theorem dJ6_bitCount_0f7a4_21 : decode cJ6_bitCount_0f7a4 21 = .ok (.iand, 1) := by decide +kernel
theorem dJ6_bitCount_0f7a4_22 : decode cJ6_bitCount_0f7a4 22 = .ok (.iadd, 1) := by decide +kernel
theorem dJ6_bitCount_0f7a4_23 : decode cJ6_bitCount_0f7a4 23 = .ok (.istore_n 0, 1) := by decide +kernel
theorem dJ6_bitCount_0f7a4_24 : decode cJ6_bitCount_0f7a4 24 = .ok (.iload_n 0, 1) := by decide +kernel
theorem dJ6_bitCount_0f7a4_25 : decode cJ6_bitCount_0f7a4 25 = .ok (.iload_n 0, 1) := by decide +kernel
theorem dJ6_bitCount_0f7a4_26 : decode cJ6_bitCount_0f7a4 26 = .ok (.iconst 4, 1) := by decide +kernel
theorem dJ6_bitCount_0f7a4_27 : decode cJ6_bitCount_0f7a4 27 = .ok (.iushr, 1) := by decide +kernel
theorem dJ6_bitCount_0f7a4_28 : decode cJ6_bitCount_0f7a4 28 = .ok (.iadd, 1) := by decide +kernel
theorem dJ6_bitCount_0f7a4_29 : decode cJ6_bitCount_0f7a4 29 = .ok (.ldc_w 267, 3) := by decide +kernel
theorem dJ6_bitCount_0f7a4_32 : decode cJ6_bitCount_0f7a4 32 = .ok (.iand, 1) := by decide +kernel
theorem dJ6_bitCount_0f7a4_33 : decode cJ6_bitCount_0f7a4 33 = .ok (.istore_n 0, 1) := by decide +kernel
theorem dJ6_bitCount_0f7a4_34 : decode cJ6_bitCount_0f7a4 34 = .ok (.iload_n 0, 1) := by decide +kernel
theorem dJ6_bitCount_0f7a4_35 : decode cJ6_bitCount_0f7a4 35 = .ok (.iload_n 0, 1) := by decide +kernel
theorem dJ6_bitCount_0f7a4_36 : decode cJ6_bitCount_0f7a4 36 = .ok (.bipush 8, 2) := by decide +kernel
theorem dJ6_bitCount_0f7a4_38 : decode cJ6_bitCount_0f7a4 38 = .ok (.iushr, 1) := by decide +kernel
theorem dJ6_bitCount_0f7a4_39 : decode cJ6_bitCount_0f7a4 39 = .ok (.iadd, 1) := by decide +kernel
theorem dJ6_bitCount_0f7a4_40 : decode cJ6_bitCount_0f7a4 40 = .ok (.istore_n 0, 1) := by decide +kernel
theorem dJ6_bitCount_0f7a4_41 : decode cJ6_bitCount_0f7a4 41 = .ok (.iload_n 0, 1) := by decide +kernel
theorem dJ6_bitCount_0f7a4_42 : decode cJ6_bitCount_0f7a4 42 = .ok (.iload_n 0, 1) := by decide +kernel
theorem dJ6_bitCount_0f7a4_43 : decode cJ6_bitCount_0f7a4 43 = .ok (.bipush 16, 2) := by decide +kernel
theorem dJ6_bitCount_0f7a4_45 : decode cJ6_bitCount_0f7a4 45 = .ok (.iushr, 1) := by decide +kernel
theorem dJ6_bitCount_0f7a4_46 : decode cJ6_bitCount_0f7a4 46 = .ok (.iadd, 1) := by decide +kernel
theorem dJ6_bitCount_0f7a4_47 : decode cJ6_bitCount_0f7a4 47 = .ok (.istore_n 0, 1) := by decide +kernel
theorem dJ6_bitCount_0f7a4_48 : decode cJ6_bitCount_0f7a4 48 = .ok (.iload_n 0, 1) := by decide +kernel
theorem dJ6_bitCount_0f7a4_49 : decode cJ6_bitCount_0f7a4 49 = .ok (.bipush 63, 2) := by decide +kernel
theorem dJ6_bitCount_0f7a4_51 : decode cJ6_bitCount_0f7a4 51 = .ok (.iand, 1) := by decide +kernel
theorem dJ6_bitCount_0f7a4_52 : decode cJ6_bitCount_0f7a4 52 = .ok (.ireturn, 1) := by decide +kernel
theorem dJ9_max_7cf53_0 : decode cJ9_max_7cf53 0 = .ok (.iload_n 0, 1) := by decide +kernel
theorem dJ9_max_7cf53_1 : decode cJ9_max_7cf53 1 = .ok (.iload_n 1, 1) := by decide +kernel
theorem dJ9_max_7cf53_2 : decode cJ9_max_7cf53 2 = .ok (.if_icmp .lt 7, 3) := by decide +kernel
theorem dJ9_max_7cf53_5 : decode cJ9_max_7cf53 5 = .ok (.iload_n 0, 1) := by decide +kernel
theorem dJ9_max_7cf53_6 : decode cJ9_max_7cf53 6 = .ok (.goto 4, 3) := by decide +kernel
theorem dJ9_max_7cf53_9 : decode cJ9_max_7cf53 9 = .ok (.iload_n 1, 1) := by decide +kernel
theorem dJ9_max_7cf53_10 : decode cJ9_max_7cf53 10 = .ok (.ireturn, 1) := by decide +kernel
theorem dJ9_min_7cf53_0 : decode cJ9_min_7cf53 0 = .ok (.iload_n 0, 1) := by decide +kernel
theorem dJ9_min_7cf53_1 : decode cJ9_min_7cf53 1 = .ok (.iload_n 1, 1) := by decide +kernel
theorem dJ9_min_7cf53_2 : decode cJ9_min_7cf53 2 = .ok (.if_icmp .gt 7, 3) := by decide +kernel
theorem dJ9_min_7cf53_5 : decode cJ9_min_7cf53 5 = .ok (.iload_n 0, 1) := by decide +kernel
theorem dJ9_min_7cf53_6 : decode cJ9_min_7cf53 6 = .ok (.goto 4, 3) := by decide +kernel
theorem dJ9_min_7cf53_9 : decode cJ9_min_7cf53 9 = .ok (.iload_n 1, 1) := by decide +kernel
theorem dJ9_min_7cf53_10 : decode cJ9_min_7cf53 10 = .ok (.ireturn, 1) := by decide +kernel
theorem dL_addInterpreter_0 : decode cL_addInterpreter 0 = .ok (.aload 4, 2) := by decide +kernel
theorem dL_addInterpreter_2 : decode cL_addInterpreter 2 = .ok (.iconst 0, 1) := by decide +kernel
theorem dL_addInterpreter_3 : decode cL_addInterpreter 3 = .ok (.aload_n 0, 1) := by decide +kernel
theorem dL_addInterpreter_4 : decode cL_addInterpreter 4 = .ok (.iload_n 1, 1) := by decide +kernel
theorem dL_addInterpreter_5 : decode cL_addInterpreter 5 = .ok (.iload_n 2, 1) := by decide +kernel
theorem dL_addInterpreter_6 : decode cL_addInterpreter 6 = .ok (.iload_n 3, 1) := by decide +kernel
theorem dL_addInterpreter_7 : decode cL_addInterpreter 7 = .ok (.invokevirtual 7, 3) := by decide +kernel
theorem dL_addInterpreter_10 : decode cL_addInterpreter 10 = .ok (.i2l, 1) := by decide +kernel
theorem dL_addInterpreter_11 : decode cL_addInterpreter 11 = .ok (.lastore, 1) := by decide +kernel
theorem dL_addInterpreter_12 : decode cL_addInterpreter 12 = .ok (.goto 11, 3) := by decide +kernel
theorem dL_addInterpreter_15 : decode cL_addInterpreter 15 = .ok (.astore 5, 2) := by decide +kernel
theorem dL_addInterpreter_17 : decode cL_addInterpreter 17 = .ok (.iconst 1, 1) := by decide +kernel
theorem dL_addInterpreter_18 : decode cL_addInterpreter 18 = .ok (.ireturn, 1) := by decide +kernel
theorem dL_addInterpreter_19 : decode cL_addInterpreter 19 = .ok (.astore 5, 2) := by decide +kernel
theorem dL_addInterpreter_21 : decode cL_addInterpreter 21 = .ok (.iconst 2, 1) := by decide +kernel
theorem dL_addInterpreter_22 : decode cL_addInterpreter 22 = .ok (.ireturn, 1) := by decide +kernel
theorem dL_addInterpreter_23 : decode cL_addInterpreter 23 = .ok (.iconst 0, 1) := by decide +kernel
theorem dL_addInterpreter_24 : decode cL_addInterpreter 24 = .ok (.ireturn, 1) := by decide +kernel
theorem dL_addHearing_0 : decode cL_addHearing 0 = .ok (.aload 5, 2) := by decide +kernel
theorem dL_addHearing_2 : decode cL_addHearing 2 = .ok (.iconst 0, 1) := by decide +kernel
theorem dL_addHearing_3 : decode cL_addHearing 3 = .ok (.aload_n 0, 1) := by decide +kernel
theorem dL_addHearing_4 : decode cL_addHearing 4 = .ok (.iload_n 1, 1) := by decide +kernel
theorem dL_addHearing_5 : decode cL_addHearing 5 = .ok (.iload_n 2, 1) := by decide +kernel
theorem dL_addHearing_6 : decode cL_addHearing 6 = .ok (.iload_n 3, 1) := by decide +kernel
theorem dL_addHearing_7 : decode cL_addHearing 7 = .ok (.iload 4, 2) := by decide +kernel
theorem dL_addHearing_9 : decode cL_addHearing 9 = .ok (.invokevirtual 17, 3) := by decide +kernel
theorem dL_addHearing_12 : decode cL_addHearing 12 = .ok (.i2l, 1) := by decide +kernel
theorem dL_addHearing_13 : decode cL_addHearing 13 = .ok (.lastore, 1) := by decide +kernel
theorem dL_addHearing_14 : decode cL_addHearing 14 = .ok (.goto 11, 3) := by decide +kernel
theorem dL_addHearing_17 : decode cL_addHearing 17 = .ok (.astore 6, 2) := by decide +kernel
theorem dL_addHearing_19 : decode cL_addHearing 19 = .ok (.iconst 1, 1) := by decide +kernel
theorem dL_addHearing_20 : decode cL_addHearing 20 = .ok (.ireturn, 1) := by decide +kernel
theorem dL_addHearing_21 : decode cL_addHearing 21 = .ok (.astore 6, 2) := by decide +kernel
theorem dL_addHearing_23 : decode cL_addHearing 23 = .ok (.iconst 2, 1) := by decide +kernel
theorem dL_addHearing_24 : decode cL_addHearing 24 = .ok (.ireturn, 1) := by decide +kernel
theorem dL_addHearing_25 : decode cL_addHearing 25 = .ok (.iconst 0, 1) := by decide +kernel
theorem dL_addHearing_26 : decode cL_addHearing 26 = .ok (.ireturn, 1) := by decide +kernel
theorem dL_certify_0 : decode cL_certify 0 = .ok (.aload_n 3, 1) := by decide +kernel
theorem dL_certify_1 : decode cL_certify 1 = .ok (.iconst 0, 1) := by decide +kernel
theorem dL_certify_2 : decode cL_certify 2 = .ok (.aload_n 0, 1) := by decide +kernel
theorem dL_certify_3 : decode cL_certify 3 = .ok (.iload_n 1, 1) := by decide +kernel
theorem dL_certify_4 : decode cL_certify 4 = .ok (.iload_n 2, 1) := by decide +kernel
theorem dL_certify_5 : decode cL_certify 5 = .ok (.invokevirtual 21, 3) := by decide +kernel
theorem dL_certify_8 : decode cL_certify 8 = .ok (.i2l, 1) := by decide +kernel
theorem dL_certify_9 : decode cL_certify 9 = .ok (.lastore, 1) := by decide +kernel
theorem dL_certify_10 : decode cL_certify 10 = .ok (.goto 11, 3) := by decide +kernel
theorem dL_certify_13 : decode cL_certify 13 = .ok (.astore 4, 2) := by decide +kernel
theorem dL_certify_15 : decode cL_certify 15 = .ok (.iconst 1, 1) := by decide +kernel
theorem dL_certify_16 : decode cL_certify 16 = .ok (.ireturn, 1) := by decide +kernel
theorem dL_certify_17 : decode cL_certify 17 = .ok (.astore 4, 2) := by decide +kernel
theorem dL_certify_19 : decode cL_certify 19 = .ok (.iconst 2, 1) := by decide +kernel
theorem dL_certify_20 : decode cL_certify 20 = .ok (.ireturn, 1) := by decide +kernel
theorem dL_certify_21 : decode cL_certify 21 = .ok (.iconst 0, 1) := by decide +kernel
theorem dL_certify_22 : decode cL_certify 22 = .ok (.ireturn, 1) := by decide +kernel
theorem dL_set_0 : decode cL_set 0 = .ok (.aload_n 3, 1) := by decide +kernel
theorem dL_set_1 : decode cL_set 1 = .ok (.iconst 0, 1) := by decide +kernel
theorem dL_set_2 : decode cL_set 2 = .ok (.aload_n 0, 1) := by decide +kernel
theorem dL_set_3 : decode cL_set 3 = .ok (.iload_n 1, 1) := by decide +kernel
theorem dL_set_4 : decode cL_set 4 = .ok (.iload_n 2, 1) := by decide +kernel
theorem dL_set_5 : decode cL_set 5 = .ok (.invokevirtual 27, 3) := by decide +kernel
theorem dL_set_8 : decode cL_set 8 = .ok (.i2l, 1) := by decide +kernel
theorem dL_set_9 : decode cL_set 9 = .ok (.lastore, 1) := by decide +kernel
theorem dL_set_10 : decode cL_set 10 = .ok (.goto 11, 3) := by decide +kernel
theorem dL_set_13 : decode cL_set 13 = .ok (.astore 4, 2) := by decide +kernel
theorem dL_set_15 : decode cL_set 15 = .ok (.iconst 1, 1) := by decide +kernel
theorem dL_set_16 : decode cL_set 16 = .ok (.ireturn, 1) := by decide +kernel
theorem dL_set_17 : decode cL_set 17 = .ok (.astore 4, 2) := by decide +kernel
theorem dL_set_19 : decode cL_set 19 = .ok (.iconst 2, 1) := by decide +kernel
theorem dL_set_20 : decode cL_set 20 = .ok (.ireturn, 1) := by decide +kernel
theorem dL_set_21 : decode cL_set 21 = .ok (.iconst 0, 1) := by decide +kernel
theorem dL_set_22 : decode cL_set 22 = .ok (.ireturn, 1) := by decide +kernel
theorem dL_assign_0 : decode cL_assign 0 = .ok (.aload 5, 2) := by decide +kernel
theorem dL_assign_2 : decode cL_assign 2 = .ok (.iconst 0, 1) := by decide +kernel
theorem dL_assign_3 : decode cL_assign 3 = .ok (.aload_n 0, 1) := by decide +kernel
theorem dL_assign_4 : decode cL_assign 4 = .ok (.iload_n 1, 1) := by decide +kernel
theorem dL_assign_5 : decode cL_assign 5 = .ok (.iload_n 2, 1) := by decide +kernel
theorem dL_assign_6 : decode cL_assign 6 = .ok (.iload_n 3, 1) := by decide +kernel
theorem dL_assign_7 : decode cL_assign 7 = .ok (.iload 4, 2) := by decide +kernel
theorem dL_assign_9 : decode cL_assign 9 = .ok (.invokevirtual 30, 3) := by decide +kernel
theorem dL_assign_12 : decode cL_assign 12 = .ok (.i2l, 1) := by decide +kernel
theorem dL_assign_13 : decode cL_assign 13 = .ok (.lastore, 1) := by decide +kernel
theorem dL_assign_14 : decode cL_assign 14 = .ok (.goto 15, 3) := by decide +kernel
theorem dL_assign_17 : decode cL_assign 17 = .ok (.astore 6, 2) := by decide +kernel
theorem dL_assign_19 : decode cL_assign 19 = .ok (.iconst 1, 1) := by decide +kernel
theorem dL_assign_20 : decode cL_assign 20 = .ok (.ireturn, 1) := by decide +kernel
theorem dL_assign_21 : decode cL_assign 21 = .ok (.astore 6, 2) := by decide +kernel
theorem dL_assign_23 : decode cL_assign 23 = .ok (.iconst 2, 1) := by decide +kernel
theorem dL_assign_24 : decode cL_assign 24 = .ok (.ireturn, 1) := by decide +kernel
theorem dL_assign_25 : decode cL_assign 25 = .ok (.astore 6, 2) := by decide +kernel
theorem dL_assign_27 : decode cL_assign 27 = .ok (.iconst 3, 1) := by decide +kernel
theorem dL_assign_28 : decode cL_assign 28 = .ok (.ireturn, 1) := by decide +kernel
theorem dL_assign_29 : decode cL_assign 29 = .ok (.iconst 0, 1) := by decide +kernel
theorem dL_assign_30 : decode cL_assign 30 = .ok (.ireturn, 1) := by decide +kernel
theorem dL_release_0 : decode cL_release 0 = .ok (.aload_n 2, 1) := by decide +kernel
theorem dL_release_1 : decode cL_release 1 = .ok (.iconst 0, 1) := by decide +kernel
theorem dL_release_2 : decode cL_release 2 = .ok (.aload_n 0, 1) := by decide +kernel
theorem dL_release_3 : decode cL_release 3 = .ok (.iload_n 1, 1) := by decide +kernel
theorem dL_release_4 : decode cL_release 4 = .ok (.invokevirtual 33, 3) := by decide +kernel
theorem dL_release_7 : decode cL_release 7 = .ok (.i2l, 1) := by decide +kernel
theorem dL_release_8 : decode cL_release 8 = .ok (.lastore, 1) := by decide +kernel
theorem dL_release_9 : decode cL_release 9 = .ok (.goto 9, 3) := by decide +kernel
theorem dL_release_12 : decode cL_release 12 = .ok (.astore_n 3, 1) := by decide +kernel
theorem dL_release_13 : decode cL_release 13 = .ok (.iconst 1, 1) := by decide +kernel
theorem dL_release_14 : decode cL_release 14 = .ok (.ireturn, 1) := by decide +kernel
theorem dL_release_15 : decode cL_release 15 = .ok (.astore_n 3, 1) := by decide +kernel
theorem dL_release_16 : decode cL_release 16 = .ok (.iconst 2, 1) := by decide +kernel
theorem dL_release_17 : decode cL_release 17 = .ok (.ireturn, 1) := by decide +kernel
theorem dL_release_18 : decode cL_release 18 = .ok (.iconst 0, 1) := by decide +kernel
theorem dL_release_19 : decode cL_release 19 = .ok (.ireturn, 1) := by decide +kernel
theorem dL_swap_0 : decode cL_swap 0 = .ok (.aload 4, 2) := by decide +kernel
theorem dL_swap_2 : decode cL_swap 2 = .ok (.iconst 0, 1) := by decide +kernel
theorem dL_swap_3 : decode cL_swap 3 = .ok (.aload_n 0, 1) := by decide +kernel
theorem dL_swap_4 : decode cL_swap 4 = .ok (.iload_n 1, 1) := by decide +kernel
theorem dL_swap_5 : decode cL_swap 5 = .ok (.iload_n 2, 1) := by decide +kernel
theorem dL_swap_6 : decode cL_swap 6 = .ok (.iload_n 3, 1) := by decide +kernel
theorem dL_swap_7 : decode cL_swap 7 = .ok (.invokevirtual 37, 3) := by decide +kernel
theorem dL_swap_10 : decode cL_swap 10 = .ok (.i2l, 1) := by decide +kernel
theorem dL_swap_11 : decode cL_swap 11 = .ok (.lastore, 1) := by decide +kernel
theorem dL_swap_12 : decode cL_swap 12 = .ok (.goto 15, 3) := by decide +kernel
theorem dL_swap_15 : decode cL_swap 15 = .ok (.astore 5, 2) := by decide +kernel
theorem dL_swap_17 : decode cL_swap 17 = .ok (.iconst 1, 1) := by decide +kernel
theorem dL_swap_18 : decode cL_swap 18 = .ok (.ireturn, 1) := by decide +kernel
theorem dL_swap_19 : decode cL_swap 19 = .ok (.astore 5, 2) := by decide +kernel
theorem dL_swap_21 : decode cL_swap 21 = .ok (.iconst 2, 1) := by decide +kernel
theorem dL_swap_22 : decode cL_swap 22 = .ok (.ireturn, 1) := by decide +kernel
theorem dL_swap_23 : decode cL_swap 23 = .ok (.astore 5, 2) := by decide +kernel
theorem dL_swap_25 : decode cL_swap 25 = .ok (.iconst 3, 1) := by decide +kernel
theorem dL_swap_26 : decode cL_swap 26 = .ok (.ireturn, 1) := by decide +kernel
theorem dL_swap_27 : decode cL_swap 27 = .ok (.iconst 0, 1) := by decide +kernel
theorem dL_swap_28 : decode cL_swap 28 = .ok (.ireturn, 1) := by decide +kernel
theorem dL_vacate_0 : decode cL_vacate 0 = .ok (.aload_n 2, 1) := by decide +kernel
theorem dL_vacate_1 : decode cL_vacate 1 = .ok (.iconst 0, 1) := by decide +kernel
theorem dL_vacate_2 : decode cL_vacate 2 = .ok (.aload_n 0, 1) := by decide +kernel
theorem dL_vacate_3 : decode cL_vacate 3 = .ok (.iload_n 1, 1) := by decide +kernel
theorem dL_vacate_4 : decode cL_vacate 4 = .ok (.invokevirtual 40, 3) := by decide +kernel
theorem dL_vacate_7 : decode cL_vacate 7 = .ok (.i2l, 1) := by decide +kernel
theorem dL_vacate_8 : decode cL_vacate 8 = .ok (.lastore, 1) := by decide +kernel
theorem dL_vacate_9 : decode cL_vacate 9 = .ok (.goto 9, 3) := by decide +kernel
theorem dL_vacate_12 : decode cL_vacate 12 = .ok (.astore_n 3, 1) := by decide +kernel
theorem dL_vacate_13 : decode cL_vacate 13 = .ok (.iconst 1, 1) := by decide +kernel
theorem dL_vacate_14 : decode cL_vacate 14 = .ok (.ireturn, 1) := by decide +kernel
theorem dL_vacate_15 : decode cL_vacate 15 = .ok (.astore_n 3, 1) := by decide +kernel
theorem dL_vacate_16 : decode cL_vacate 16 = .ok (.iconst 2, 1) := by decide +kernel
theorem dL_vacate_17 : decode cL_vacate 17 = .ok (.ireturn, 1) := by decide +kernel
theorem dL_vacate_18 : decode cL_vacate 18 = .ok (.iconst 0, 1) := by decide +kernel
theorem dL_vacate_19 : decode cL_vacate 19 = .ok (.ireturn, 1) := by decide +kernel
theorem dL_pass_0 : decode cL_pass 0 = .ok (.aload_n 2, 1) := by decide +kernel
theorem dL_pass_1 : decode cL_pass 1 = .ok (.iconst 0, 1) := by decide +kernel
theorem dL_pass_2 : decode cL_pass 2 = .ok (.aload_n 0, 1) := by decide +kernel
theorem dL_pass_3 : decode cL_pass 3 = .ok (.iload_n 1, 1) := by decide +kernel
theorem dL_pass_4 : decode cL_pass 4 = .ok (.invokevirtual 43, 3) := by decide +kernel
theorem dL_pass_7 : decode cL_pass 7 = .ok (.i2l, 1) := by decide +kernel
theorem dL_pass_8 : decode cL_pass 8 = .ok (.lastore, 1) := by decide +kernel
theorem dL_pass_9 : decode cL_pass 9 = .ok (.goto 9, 3) := by decide +kernel
theorem dL_pass_12 : decode cL_pass 12 = .ok (.astore_n 3, 1) := by decide +kernel
theorem dL_pass_13 : decode cL_pass 13 = .ok (.iconst 1, 1) := by decide +kernel
theorem dL_pass_14 : decode cL_pass 14 = .ok (.ireturn, 1) := by decide +kernel
theorem dL_pass_15 : decode cL_pass 15 = .ok (.astore_n 3, 1) := by decide +kernel
theorem dL_pass_16 : decode cL_pass 16 = .ok (.iconst 2, 1) := by decide +kernel
theorem dL_pass_17 : decode cL_pass 17 = .ok (.ireturn, 1) := by decide +kernel
theorem dL_pass_18 : decode cL_pass 18 = .ok (.iconst 0, 1) := by decide +kernel
theorem dL_pass_19 : decode cL_pass 19 = .ok (.ireturn, 1) := by decide +kernel
theorem dL_append_0 : decode cL_append 0 = .ok (.aload_n 2, 1) := by decide +kernel
theorem dL_append_1 : decode cL_append 1 = .ok (.iconst 0, 1) := by decide +kernel
theorem dL_append_2 : decode cL_append 2 = .ok (.aload_n 0, 1) := by decide +kernel
theorem dL_append_3 : decode cL_append 3 = .ok (.iload_n 1, 1) := by decide +kernel
theorem dL_append_4 : decode cL_append 4 = .ok (.invokevirtual 46, 3) := by decide +kernel
theorem dL_append_7 : decode cL_append 7 = .ok (.i2l, 1) := by decide +kernel
theorem dL_append_8 : decode cL_append 8 = .ok (.lastore, 1) := by decide +kernel
theorem dL_append_9 : decode cL_append 9 = .ok (.goto 9, 3) := by decide +kernel
theorem dL_append_12 : decode cL_append 12 = .ok (.astore_n 3, 1) := by decide +kernel
theorem dL_append_13 : decode cL_append 13 = .ok (.iconst 1, 1) := by decide +kernel
theorem dL_append_14 : decode cL_append 14 = .ok (.ireturn, 1) := by decide +kernel
theorem dL_append_15 : decode cL_append 15 = .ok (.astore_n 3, 1) := by decide +kernel
theorem dL_append_16 : decode cL_append 16 = .ok (.iconst 2, 1) := by decide +kernel
theorem dL_append_17 : decode cL_append 17 = .ok (.ireturn, 1) := by decide +kernel
theorem dL_append_18 : decode cL_append 18 = .ok (.iconst 0, 1) := by decide +kernel
theorem dL_append_19 : decode cL_append 19 = .ok (.ireturn, 1) := by decide +kernel
theorem dL_addList_0 : decode cL_addList 0 = .ok (.aload_n 1, 1) := by decide +kernel
theorem dL_addList_1 : decode cL_addList 1 = .ok (.iconst 0, 1) := by decide +kernel
theorem dL_addList_2 : decode cL_addList 2 = .ok (.aload_n 0, 1) := by decide +kernel
theorem dL_addList_3 : decode cL_addList 3 = .ok (.invokevirtual 49, 3) := by decide +kernel
theorem dL_addList_6 : decode cL_addList 6 = .ok (.i2l, 1) := by decide +kernel
theorem dL_addList_7 : decode cL_addList 7 = .ok (.lastore, 1) := by decide +kernel
theorem dL_addList_8 : decode cL_addList 8 = .ok (.goto 9, 3) := by decide +kernel
theorem dL_addList_11 : decode cL_addList 11 = .ok (.astore_n 2, 1) := by decide +kernel
theorem dL_addList_12 : decode cL_addList 12 = .ok (.iconst 1, 1) := by decide +kernel
theorem dL_addList_13 : decode cL_addList 13 = .ok (.ireturn, 1) := by decide +kernel
theorem dL_addList_14 : decode cL_addList 14 = .ok (.astore_n 2, 1) := by decide +kernel
theorem dL_addList_15 : decode cL_addList 15 = .ok (.iconst 2, 1) := by decide +kernel
theorem dL_addList_16 : decode cL_addList 16 = .ok (.ireturn, 1) := by decide +kernel
theorem dL_addList_17 : decode cL_addList 17 = .ok (.iconst 0, 1) := by decide +kernel
theorem dL_addList_18 : decode cL_addList 18 = .ok (.ireturn, 1) := by decide +kernel
theorem dL_undo_0 : decode cL_undo 0 = .ok (.aload_n 1, 1) := by decide +kernel
theorem dL_undo_1 : decode cL_undo 1 = .ok (.iconst 0, 1) := by decide +kernel
theorem dL_undo_2 : decode cL_undo 2 = .ok (.aload_n 0, 1) := by decide +kernel
theorem dL_undo_3 : decode cL_undo 3 = .ok (.invokevirtual 53, 3) := by decide +kernel
theorem dL_undo_6 : decode cL_undo 6 = .ok (.i2l, 1) := by decide +kernel
theorem dL_undo_7 : decode cL_undo 7 = .ok (.lastore, 1) := by decide +kernel
theorem dL_undo_8 : decode cL_undo 8 = .ok (.goto 6, 3) := by decide +kernel
theorem dL_undo_11 : decode cL_undo 11 = .ok (.astore_n 2, 1) := by decide +kernel
theorem dL_undo_12 : decode cL_undo 12 = .ok (.iconst 1, 1) := by decide +kernel
theorem dL_undo_13 : decode cL_undo 13 = .ok (.ireturn, 1) := by decide +kernel
theorem dL_undo_14 : decode cL_undo 14 = .ok (.iconst 0, 1) := by decide +kernel
theorem dL_undo_15 : decode cL_undo 15 = .ok (.ireturn, 1) := by decide +kernel
theorem dL_interpreter_0 : decode cL_interpreter 0 = .ok (.aload_n 3, 1) := by decide +kernel
theorem dL_interpreter_1 : decode cL_interpreter 1 = .ok (.iconst 0, 1) := by decide +kernel
theorem dL_interpreter_2 : decode cL_interpreter 2 = .ok (.aload_n 0, 1) := by decide +kernel
theorem dL_interpreter_3 : decode cL_interpreter 3 = .ok (.iload_n 1, 1) := by decide +kernel
theorem dL_interpreter_4 : decode cL_interpreter 4 = .ok (.iload_n 2, 1) := by decide +kernel
theorem dL_interpreter_5 : decode cL_interpreter 5 = .ok (.invokevirtual 56, 3) := by decide +kernel
theorem dL_interpreter_8 : decode cL_interpreter 8 = .ok (.i2l, 1) := by decide +kernel
theorem dL_interpreter_9 : decode cL_interpreter 9 = .ok (.lastore, 1) := by decide +kernel
theorem dL_interpreter_10 : decode cL_interpreter 10 = .ok (.goto 11, 3) := by decide +kernel
theorem dL_interpreter_13 : decode cL_interpreter 13 = .ok (.astore 4, 2) := by decide +kernel
theorem dL_interpreter_15 : decode cL_interpreter 15 = .ok (.iconst 1, 1) := by decide +kernel
theorem dL_interpreter_16 : decode cL_interpreter 16 = .ok (.ireturn, 1) := by decide +kernel
theorem dL_interpreter_17 : decode cL_interpreter 17 = .ok (.astore 4, 2) := by decide +kernel
theorem dL_interpreter_19 : decode cL_interpreter 19 = .ok (.iconst 2, 1) := by decide +kernel
theorem dL_interpreter_20 : decode cL_interpreter 20 = .ok (.ireturn, 1) := by decide +kernel
theorem dL_interpreter_21 : decode cL_interpreter 21 = .ok (.iconst 0, 1) := by decide +kernel
theorem dL_interpreter_22 : decode cL_interpreter 22 = .ok (.ireturn, 1) := by decide +kernel
theorem dL_hearing_0 : decode cL_hearing 0 = .ok (.aload_n 3, 1) := by decide +kernel
theorem dL_hearing_1 : decode cL_hearing 1 = .ok (.iconst 0, 1) := by decide +kernel
theorem dL_hearing_2 : decode cL_hearing 2 = .ok (.aload_n 0, 1) := by decide +kernel
theorem dL_hearing_3 : decode cL_hearing 3 = .ok (.iload_n 1, 1) := by decide +kernel
theorem dL_hearing_4 : decode cL_hearing 4 = .ok (.iload_n 2, 1) := by decide +kernel
theorem dL_hearing_5 : decode cL_hearing 5 = .ok (.invokevirtual 59, 3) := by decide +kernel
theorem dL_hearing_8 : decode cL_hearing 8 = .ok (.i2l, 1) := by decide +kernel
theorem dL_hearing_9 : decode cL_hearing 9 = .ok (.lastore, 1) := by decide +kernel
theorem dL_hearing_10 : decode cL_hearing 10 = .ok (.goto 11, 3) := by decide +kernel
theorem dL_hearing_13 : decode cL_hearing 13 = .ok (.astore 4, 2) := by decide +kernel
theorem dL_hearing_15 : decode cL_hearing 15 = .ok (.iconst 1, 1) := by decide +kernel
theorem dL_hearing_16 : decode cL_hearing 16 = .ok (.ireturn, 1) := by decide +kernel
theorem dL_hearing_17 : decode cL_hearing 17 = .ok (.astore 4, 2) := by decide +kernel
theorem dL_hearing_19 : decode cL_hearing 19 = .ok (.iconst 2, 1) := by decide +kernel
theorem dL_hearing_20 : decode cL_hearing 20 = .ok (.ireturn, 1) := by decide +kernel
theorem dL_hearing_21 : decode cL_hearing 21 = .ok (.iconst 0, 1) := by decide +kernel
theorem dL_hearing_22 : decode cL_hearing 22 = .ok (.ireturn, 1) := by decide +kernel
theorem dL_count_0 : decode cL_count 0 = .ok (.aload_n 2, 1) := by decide +kernel
theorem dL_count_1 : decode cL_count 1 = .ok (.iconst 0, 1) := by decide +kernel
theorem dL_count_2 : decode cL_count 2 = .ok (.aload_n 0, 1) := by decide +kernel
theorem dL_count_3 : decode cL_count 3 = .ok (.iload_n 1, 1) := by decide +kernel
theorem dL_count_4 : decode cL_count 4 = .ok (.invokevirtual 62, 3) := by decide +kernel
theorem dL_count_7 : decode cL_count 7 = .ok (.i2l, 1) := by decide +kernel
theorem dL_count_8 : decode cL_count 8 = .ok (.lastore, 1) := by decide +kernel
theorem dL_count_9 : decode cL_count 9 = .ok (.goto 6, 3) := by decide +kernel
theorem dL_count_12 : decode cL_count 12 = .ok (.astore_n 3, 1) := by decide +kernel
theorem dL_count_13 : decode cL_count 13 = .ok (.iconst 1, 1) := by decide +kernel
theorem dL_count_14 : decode cL_count 14 = .ok (.ireturn, 1) := by decide +kernel
theorem dL_count_15 : decode cL_count 15 = .ok (.iconst 0, 1) := by decide +kernel
theorem dL_count_16 : decode cL_count 16 = .ok (.ireturn, 1) := by decide +kernel
theorem dL_setting_0 : decode cL_setting 0 = .ok (.aload_n 2, 1) := by decide +kernel
theorem dL_setting_1 : decode cL_setting 1 = .ok (.iconst 0, 1) := by decide +kernel
theorem dL_setting_2 : decode cL_setting 2 = .ok (.aload_n 0, 1) := by decide +kernel
theorem dL_setting_3 : decode cL_setting 3 = .ok (.iload_n 1, 1) := by decide +kernel
theorem dL_setting_4 : decode cL_setting 4 = .ok (.invokevirtual 65, 3) := by decide +kernel
theorem dL_setting_7 : decode cL_setting 7 = .ok (.i2l, 1) := by decide +kernel
theorem dL_setting_8 : decode cL_setting 8 = .ok (.lastore, 1) := by decide +kernel
theorem dL_setting_9 : decode cL_setting 9 = .ok (.goto 6, 3) := by decide +kernel
theorem dL_setting_12 : decode cL_setting 12 = .ok (.astore_n 3, 1) := by decide +kernel
theorem dL_setting_13 : decode cL_setting 13 = .ok (.iconst 1, 1) := by decide +kernel
theorem dL_setting_14 : decode cL_setting 14 = .ok (.ireturn, 1) := by decide +kernel
theorem dL_setting_15 : decode cL_setting 15 = .ok (.iconst 0, 1) := by decide +kernel
theorem dL_setting_16 : decode cL_setting 16 = .ok (.ireturn, 1) := by decide +kernel
theorem dL_whyNot_0 : decode cL_whyNot 0 = .ok (.aload 5, 2) := by decide +kernel
theorem dL_whyNot_2 : decode cL_whyNot 2 = .ok (.iconst 0, 1) := by decide +kernel
theorem dL_whyNot_3 : decode cL_whyNot 3 = .ok (.aload_n 0, 1) := by decide +kernel
theorem dL_whyNot_4 : decode cL_whyNot 4 = .ok (.iload_n 1, 1) := by decide +kernel
theorem dL_whyNot_5 : decode cL_whyNot 5 = .ok (.iload_n 2, 1) := by decide +kernel
theorem dL_whyNot_6 : decode cL_whyNot 6 = .ok (.iload_n 3, 1) := by decide +kernel
theorem dL_whyNot_7 : decode cL_whyNot 7 = .ok (.iload 4, 2) := by decide +kernel
theorem dL_whyNot_9 : decode cL_whyNot 9 = .ok (.invokevirtual 68, 3) := by decide +kernel
theorem dL_whyNot_12 : decode cL_whyNot 12 = .ok (.i2l, 1) := by decide +kernel
theorem dL_whyNot_13 : decode cL_whyNot 13 = .ok (.lastore, 1) := by decide +kernel
theorem dL_whyNot_14 : decode cL_whyNot 14 = .ok (.goto 11, 3) := by decide +kernel
theorem dL_whyNot_17 : decode cL_whyNot 17 = .ok (.astore 6, 2) := by decide +kernel
theorem dL_whyNot_19 : decode cL_whyNot 19 = .ok (.iconst 1, 1) := by decide +kernel
theorem dL_whyNot_20 : decode cL_whyNot 20 = .ok (.ireturn, 1) := by decide +kernel
theorem dL_whyNot_21 : decode cL_whyNot 21 = .ok (.astore 6, 2) := by decide +kernel
theorem dL_whyNot_23 : decode cL_whyNot 23 = .ok (.iconst 2, 1) := by decide +kernel
theorem dL_whyNot_24 : decode cL_whyNot 24 = .ok (.ireturn, 1) := by decide +kernel
theorem dL_whyNot_25 : decode cL_whyNot 25 = .ok (.iconst 0, 1) := by decide +kernel
theorem dL_whyNot_26 : decode cL_whyNot 26 = .ok (.ireturn, 1) := by decide +kernel
theorem dL_cheapest_0 : decode cL_cheapest 0 = .ok (.aload_n 3, 1) := by decide +kernel
theorem dL_cheapest_1 : decode cL_cheapest 1 = .ok (.iconst 0, 1) := by decide +kernel
theorem dL_cheapest_2 : decode cL_cheapest 2 = .ok (.aload_n 0, 1) := by decide +kernel
theorem dL_cheapest_3 : decode cL_cheapest 3 = .ok (.iload_n 1, 1) := by decide +kernel
theorem dL_cheapest_4 : decode cL_cheapest 4 = .ok (.iload_n 2, 1) := by decide +kernel
theorem dL_cheapest_5 : decode cL_cheapest 5 = .ok (.invokevirtual 71, 3) := by decide +kernel
theorem dL_cheapest_8 : decode cL_cheapest 8 = .ok (.i2l, 1) := by decide +kernel
theorem dL_cheapest_9 : decode cL_cheapest 9 = .ok (.lastore, 1) := by decide +kernel
theorem dL_cheapest_10 : decode cL_cheapest 10 = .ok (.goto 11, 3) := by decide +kernel
theorem dL_cheapest_13 : decode cL_cheapest 13 = .ok (.astore 4, 2) := by decide +kernel
theorem dL_cheapest_15 : decode cL_cheapest 15 = .ok (.iconst 1, 1) := by decide +kernel
theorem dL_cheapest_16 : decode cL_cheapest 16 = .ok (.ireturn, 1) := by decide +kernel
theorem dL_cheapest_17 : decode cL_cheapest 17 = .ok (.astore 4, 2) := by decide +kernel
theorem dL_cheapest_19 : decode cL_cheapest 19 = .ok (.iconst 2, 1) := by decide +kernel
theorem dL_cheapest_20 : decode cL_cheapest 20 = .ok (.ireturn, 1) := by decide +kernel
theorem dL_cheapest_21 : decode cL_cheapest 21 = .ok (.iconst 0, 1) := by decide +kernel
theorem dL_cheapest_22 : decode cL_cheapest 22 = .ok (.ireturn, 1) := by decide +kernel
theorem dL_tiredIn_0 : decode cL_tiredIn 0 = .ok (.aload_n 3, 1) := by decide +kernel
theorem dL_tiredIn_1 : decode cL_tiredIn 1 = .ok (.iconst 0, 1) := by decide +kernel
theorem dL_tiredIn_2 : decode cL_tiredIn 2 = .ok (.aload_n 0, 1) := by decide +kernel
theorem dL_tiredIn_3 : decode cL_tiredIn 3 = .ok (.iload_n 1, 1) := by decide +kernel
theorem dL_tiredIn_4 : decode cL_tiredIn 4 = .ok (.iload_n 2, 1) := by decide +kernel
theorem dL_tiredIn_5 : decode cL_tiredIn 5 = .ok (.invokevirtual 74, 3) := by decide +kernel
theorem dL_tiredIn_8 : decode cL_tiredIn 8 = .ok (.i2l, 1) := by decide +kernel
theorem dL_tiredIn_9 : decode cL_tiredIn 9 = .ok (.lastore, 1) := by decide +kernel
theorem dL_tiredIn_10 : decode cL_tiredIn 10 = .ok (.goto 11, 3) := by decide +kernel
theorem dL_tiredIn_13 : decode cL_tiredIn 13 = .ok (.astore 4, 2) := by decide +kernel
theorem dL_tiredIn_15 : decode cL_tiredIn 15 = .ok (.iconst 1, 1) := by decide +kernel
theorem dL_tiredIn_16 : decode cL_tiredIn 16 = .ok (.ireturn, 1) := by decide +kernel
theorem dL_tiredIn_17 : decode cL_tiredIn 17 = .ok (.astore 4, 2) := by decide +kernel
theorem dL_tiredIn_19 : decode cL_tiredIn 19 = .ok (.iconst 2, 1) := by decide +kernel
theorem dL_tiredIn_20 : decode cL_tiredIn 20 = .ok (.ireturn, 1) := by decide +kernel
theorem dL_tiredIn_21 : decode cL_tiredIn 21 = .ok (.iconst 0, 1) := by decide +kernel
theorem dL_tiredIn_22 : decode cL_tiredIn 22 = .ok (.ireturn, 1) := by decide +kernel
theorem dL_ifVacated_0 : decode cL_ifVacated 0 = .ok (.aload_n 3, 1) := by decide +kernel
theorem dL_ifVacated_1 : decode cL_ifVacated 1 = .ok (.iconst 0, 1) := by decide +kernel
theorem dL_ifVacated_2 : decode cL_ifVacated 2 = .ok (.aload_n 0, 1) := by decide +kernel
theorem dL_ifVacated_3 : decode cL_ifVacated 3 = .ok (.iload_n 1, 1) := by decide +kernel
theorem dL_ifVacated_4 : decode cL_ifVacated 4 = .ok (.iload_n 2, 1) := by decide +kernel
theorem dL_ifVacated_5 : decode cL_ifVacated 5 = .ok (.invokevirtual 77, 3) := by decide +kernel
theorem dL_ifVacated_8 : decode cL_ifVacated 8 = .ok (.i2l, 1) := by decide +kernel
theorem dL_ifVacated_9 : decode cL_ifVacated 9 = .ok (.lastore, 1) := by decide +kernel
theorem dL_ifVacated_10 : decode cL_ifVacated 10 = .ok (.goto 11, 3) := by decide +kernel
theorem dL_ifVacated_13 : decode cL_ifVacated 13 = .ok (.astore 4, 2) := by decide +kernel
theorem dL_ifVacated_15 : decode cL_ifVacated 15 = .ok (.iconst 1, 1) := by decide +kernel
theorem dL_ifVacated_16 : decode cL_ifVacated 16 = .ok (.ireturn, 1) := by decide +kernel
theorem dL_ifVacated_17 : decode cL_ifVacated 17 = .ok (.astore 4, 2) := by decide +kernel
theorem dL_ifVacated_19 : decode cL_ifVacated 19 = .ok (.iconst 2, 1) := by decide +kernel
theorem dL_ifVacated_20 : decode cL_ifVacated 20 = .ok (.ireturn, 1) := by decide +kernel
theorem dL_ifVacated_21 : decode cL_ifVacated 21 = .ok (.iconst 0, 1) := by decide +kernel
theorem dL_ifVacated_22 : decode cL_ifVacated 22 = .ok (.ireturn, 1) := by decide +kernel
theorem dL_missing_0 : decode cL_missing 0 = .ok (.aload_n 2, 1) := by decide +kernel
theorem dL_missing_1 : decode cL_missing 1 = .ok (.iconst 0, 1) := by decide +kernel
theorem dL_missing_2 : decode cL_missing 2 = .ok (.aload_n 0, 1) := by decide +kernel
theorem dL_missing_3 : decode cL_missing 3 = .ok (.iload_n 1, 1) := by decide +kernel
theorem dL_missing_4 : decode cL_missing 4 = .ok (.invokevirtual 80, 3) := by decide +kernel
theorem dL_missing_7 : decode cL_missing 7 = .ok (.i2l, 1) := by decide +kernel
theorem dL_missing_8 : decode cL_missing 8 = .ok (.lastore, 1) := by decide +kernel
theorem dL_missing_9 : decode cL_missing 9 = .ok (.goto 6, 3) := by decide +kernel
theorem dL_missing_12 : decode cL_missing 12 = .ok (.astore_n 3, 1) := by decide +kernel
theorem dL_missing_13 : decode cL_missing 13 = .ok (.iconst 1, 1) := by decide +kernel
theorem dL_missing_14 : decode cL_missing 14 = .ok (.ireturn, 1) := by decide +kernel
theorem dL_missing_15 : decode cL_missing 15 = .ok (.iconst 0, 1) := by decide +kernel
theorem dL_missing_16 : decode cL_missing 16 = .ok (.ireturn, 1) := by decide +kernel
theorem dL_law_0 : decode cL_law 0 = .ok (.new 8, 3) := by decide +kernel
theorem dL_law_3 : decode cL_law 3 = .ok (.dup, 1) := by decide +kernel
theorem dL_law_4 : decode cL_law 4 = .ok (.invokespecial 83, 3) := by decide +kernel
theorem dL_law_7 : decode cL_law 7 = .ok (.astore_n 1, 1) := by decide +kernel
theorem dL_law_8 : decode cL_law 8 = .ok (.new 84, 3) := by decide +kernel
theorem dL_law_11 : decode cL_law 11 = .ok (.dup, 1) := by decide +kernel
theorem dL_law_12 : decode cL_law 12 = .ok (.invokespecial 86, 3) := by decide +kernel
theorem dL_law_15 : decode cL_law 15 = .ok (.astore_n 2, 1) := by decide +kernel
theorem dL_law_16 : decode cL_law 16 = .ok (.iconst 1, 1) := by decide +kernel
theorem dL_law_17 : decode cL_law 17 = .ok (.newarray .long, 2) := by decide +kernel
theorem dL_law_19 : decode cL_law 19 = .ok (.astore_n 3, 1) := by decide +kernel
theorem dL_law_20 : decode cL_law 20 = .ok (.iconst 0, 1) := by decide +kernel
theorem dL_law_21 : decode cL_law 21 = .ok (.istore 4, 2) := by decide +kernel
theorem dL_law_23 : decode cL_law 23 = .ok (.iload 4, 2) := by decide +kernel
theorem dL_law_25 : decode cL_law 25 = .ok (.aload_n 0, 1) := by decide +kernel
theorem dL_law_26 : decode cL_law 26 = .ok (.arraylength, 1) := by decide +kernel
theorem dL_law_27 : decode cL_law 27 = .ok (.iconst 5, 1) := by decide +kernel
theorem dL_law_28 : decode cL_law 28 = .ok (.isub, 1) := by decide +kernel
theorem dL_law_29 : decode cL_law 29 = .ok (.if_icmp .gt 1619, 3) := by decide +kernel
theorem dL_law_32 : decode cL_law 32 = .ok (.aload_n 0, 1) := by decide +kernel
theorem dL_law_33 : decode cL_law 33 = .ok (.iload 4, 2) := by decide +kernel
theorem dL_law_35 : decode cL_law 35 = .ok (.iaload, 1) := by decide +kernel
theorem dL_law_36 : decode cL_law 36 = .ok (.bipush 31, 2) := by decide +kernel
theorem dL_law_38 : decode cL_law 38 = .ok (.iand, 1) := by decide +kernel
theorem dL_law_39 : decode cL_law 39 = .ok (.tableswitch 1603 0 25 #[117, 197, 289, 357, 425, 517, 573, 653, 709, 765, 821, 834, 847, 891, 935, 1003, 1071, 1127, 1183, 1275, 1343, 1411, 1479, 1492, 1548, 1589], 117) := by decide +kernel
theorem dL_law_156 : decode cL_law 156 = .ok (.aload_n 1, 1) := by decide +kernel
theorem dL_law_157 : decode cL_law 157 = .ok (.aload_n 0, 1) := by decide +kernel
theorem dL_law_158 : decode cL_law 158 = .ok (.iload 4, 2) := by decide +kernel
theorem dL_law_160 : decode cL_law 160 = .ok (.iconst 1, 1) := by decide +kernel
theorem dL_law_161 : decode cL_law 161 = .ok (.iadd, 1) := by decide +kernel
theorem dL_law_162 : decode cL_law 162 = .ok (.iaload, 1) := by decide +kernel
theorem dL_law_163 : decode cL_law 163 = .ok (.aload_n 0, 1) := by decide +kernel
theorem dL_law_164 : decode cL_law 164 = .ok (.iload 4, 2) := by decide +kernel
theorem dL_law_166 : decode cL_law 166 = .ok (.iconst 2, 1) := by decide +kernel
theorem dL_law_167 : decode cL_law 167 = .ok (.iadd, 1) := by decide +kernel
theorem dL_law_168 : decode cL_law 168 = .ok (.iaload, 1) := by decide +kernel
theorem dL_law_169 : decode cL_law 169 = .ok (.aload_n 0, 1) := by decide +kernel
theorem dL_law_170 : decode cL_law 170 = .ok (.iload 4, 2) := by decide +kernel
theorem dL_law_172 : decode cL_law 172 = .ok (.iconst 3, 1) := by decide +kernel
theorem dL_law_173 : decode cL_law 173 = .ok (.iadd, 1) := by decide +kernel
theorem dL_law_174 : decode cL_law 174 = .ok (.iaload, 1) := by decide +kernel
theorem dL_law_175 : decode cL_law 175 = .ok (.aload_n 3, 1) := by decide +kernel
theorem dL_law_176 : decode cL_law 176 = .ok (.invokestatic 87, 3) := by decide +kernel
theorem dL_law_179 : decode cL_law 179 = .ok (.istore 5, 2) := by decide +kernel
theorem dL_law_181 : decode cL_law 181 = .ok (.aload_n 2, 1) := by decide +kernel
theorem dL_law_182 : decode cL_law 182 = .ok (.aload_n 0, 1) := by decide +kernel
theorem dL_law_183 : decode cL_law 183 = .ok (.iload 4, 2) := by decide +kernel
theorem dL_law_185 : decode cL_law 185 = .ok (.iconst 1, 1) := by decide +kernel
theorem dL_law_186 : decode cL_law 186 = .ok (.iadd, 1) := by decide +kernel
theorem dL_law_187 : decode cL_law 187 = .ok (.iaload, 1) := by decide +kernel
theorem dL_law_188 : decode cL_law 188 = .ok (.aload_n 0, 1) := by decide +kernel
theorem dL_law_189 : decode cL_law 189 = .ok (.iload 4, 2) := by decide +kernel
theorem dL_law_191 : decode cL_law 191 = .ok (.iconst 2, 1) := by decide +kernel
theorem dL_law_192 : decode cL_law 192 = .ok (.iadd, 1) := by decide +kernel
theorem dL_law_193 : decode cL_law 193 = .ok (.iaload, 1) := by decide +kernel
theorem dL_law_194 : decode cL_law 194 = .ok (.aload_n 0, 1) := by decide +kernel
theorem dL_law_195 : decode cL_law 195 = .ok (.iload 4, 2) := by decide +kernel
theorem dL_law_197 : decode cL_law 197 = .ok (.iconst 3, 1) := by decide +kernel
theorem dL_law_198 : decode cL_law 198 = .ok (.iadd, 1) := by decide +kernel
theorem dL_law_199 : decode cL_law 199 = .ok (.iaload, 1) := by decide +kernel
theorem dL_law_200 : decode cL_law 200 = .ok (.invokevirtual 92, 3) := by decide +kernel
theorem dL_law_203 : decode cL_law 203 = .ok (.istore 6, 2) := by decide +kernel
theorem dL_law_205 : decode cL_law 205 = .ok (.aload_n 2, 1) := by decide +kernel
theorem dL_law_206 : decode cL_law 206 = .ok (.invokevirtual 93, 3) := by decide +kernel
theorem dL_law_209 : decode cL_law 209 = .ok (.iload 5, 2) := by decide +kernel
theorem dL_law_211 : decode cL_law 211 = .ok (.if_icmp .eq 5, 3) := by decide +kernel
theorem dL_law_214 : decode cL_law 214 = .ok (.iconst 0, 1) := by decide +kernel
theorem dL_law_215 : decode cL_law 215 = .ok (.ireturn, 1) := by decide +kernel
theorem dL_law_216 : decode cL_law 216 = .ok (.iload 5, 2) := by decide +kernel
theorem dL_law_218 : decode cL_law 218 = .ok (.ifCond .ne 15, 3) := by decide +kernel
theorem dL_law_221 : decode cL_law 221 = .ok (.aload_n 3, 1) := by decide +kernel
theorem dL_law_222 : decode cL_law 222 = .ok (.iconst 0, 1) := by decide +kernel
theorem dL_law_223 : decode cL_law 223 = .ok (.laload, 1) := by decide +kernel
theorem dL_law_224 : decode cL_law 224 = .ok (.iload 6, 2) := by decide +kernel
theorem dL_law_226 : decode cL_law 226 = .ok (.i2l, 1) := by decide +kernel
theorem dL_law_227 : decode cL_law 227 = .ok (.lcmp, 1) := by decide +kernel
theorem dL_law_228 : decode cL_law 228 = .ok (.ifCond .eq 5, 3) := by decide +kernel
theorem dL_law_231 : decode cL_law 231 = .ok (.iconst 0, 1) := by decide +kernel
theorem dL_law_232 : decode cL_law 232 = .ok (.ireturn, 1) := by decide +kernel
theorem dL_law_233 : decode cL_law 233 = .ok (.goto 1409, 3) := by decide +kernel
theorem dL_law_236 : decode cL_law 236 = .ok (.aload_n 1, 1) := by decide +kernel
theorem dL_law_237 : decode cL_law 237 = .ok (.aload_n 0, 1) := by decide +kernel
theorem dL_law_238 : decode cL_law 238 = .ok (.iload 4, 2) := by decide +kernel
theorem dL_law_240 : decode cL_law 240 = .ok (.iconst 1, 1) := by decide +kernel
theorem dL_law_241 : decode cL_law 241 = .ok (.iadd, 1) := by decide +kernel
theorem dL_law_242 : decode cL_law 242 = .ok (.iaload, 1) := by decide +kernel
theorem dL_law_243 : decode cL_law 243 = .ok (.aload_n 0, 1) := by decide +kernel
theorem dL_law_244 : decode cL_law 244 = .ok (.iload 4, 2) := by decide +kernel
theorem dL_law_246 : decode cL_law 246 = .ok (.iconst 2, 1) := by decide +kernel
theorem dL_law_247 : decode cL_law 247 = .ok (.iadd, 1) := by decide +kernel
theorem dL_law_248 : decode cL_law 248 = .ok (.iaload, 1) := by decide +kernel
theorem dL_law_249 : decode cL_law 249 = .ok (.aload_n 0, 1) := by decide +kernel
theorem dL_law_250 : decode cL_law 250 = .ok (.iload 4, 2) := by decide +kernel
theorem dL_law_252 : decode cL_law 252 = .ok (.iconst 3, 1) := by decide +kernel
theorem dL_law_253 : decode cL_law 253 = .ok (.iadd, 1) := by decide +kernel
theorem dL_law_254 : decode cL_law 254 = .ok (.iaload, 1) := by decide +kernel
theorem dL_law_255 : decode cL_law 255 = .ok (.aload_n 0, 1) := by decide +kernel
theorem dL_law_256 : decode cL_law 256 = .ok (.iload 4, 2) := by decide +kernel
theorem dL_law_258 : decode cL_law 258 = .ok (.iconst 4, 1) := by decide +kernel
theorem dL_law_259 : decode cL_law 259 = .ok (.iadd, 1) := by decide +kernel
theorem dL_law_260 : decode cL_law 260 = .ok (.iaload, 1) := by decide +kernel
theorem dL_law_261 : decode cL_law 261 = .ok (.aload_n 3, 1) := by decide +kernel
theorem dL_law_262 : decode cL_law 262 = .ok (.invokestatic 96, 3) := by decide +kernel
theorem dL_law_265 : decode cL_law 265 = .ok (.istore 5, 2) := by decide +kernel
theorem dL_law_267 : decode cL_law 267 = .ok (.aload_n 2, 1) := by decide +kernel
theorem dL_law_268 : decode cL_law 268 = .ok (.aload_n 0, 1) := by decide +kernel
theorem dL_law_269 : decode cL_law 269 = .ok (.iload 4, 2) := by decide +kernel
theorem dL_law_271 : decode cL_law 271 = .ok (.iconst 1, 1) := by decide +kernel
theorem dL_law_272 : decode cL_law 272 = .ok (.iadd, 1) := by decide +kernel
theorem dL_law_273 : decode cL_law 273 = .ok (.iaload, 1) := by decide +kernel
theorem dL_law_274 : decode cL_law 274 = .ok (.aload_n 0, 1) := by decide +kernel
theorem dL_law_275 : decode cL_law 275 = .ok (.iload 4, 2) := by decide +kernel
theorem dL_law_277 : decode cL_law 277 = .ok (.iconst 2, 1) := by decide +kernel
theorem dL_law_278 : decode cL_law 278 = .ok (.iadd, 1) := by decide +kernel
theorem dL_law_279 : decode cL_law 279 = .ok (.iaload, 1) := by decide +kernel
theorem dL_law_280 : decode cL_law 280 = .ok (.aload_n 0, 1) := by decide +kernel
theorem dL_law_281 : decode cL_law 281 = .ok (.iload 4, 2) := by decide +kernel
theorem dL_law_283 : decode cL_law 283 = .ok (.iconst 3, 1) := by decide +kernel
theorem dL_law_284 : decode cL_law 284 = .ok (.iadd, 1) := by decide +kernel
theorem dL_law_285 : decode cL_law 285 = .ok (.iaload, 1) := by decide +kernel
theorem dL_law_286 : decode cL_law 286 = .ok (.aload_n 0, 1) := by decide +kernel
theorem dL_law_287 : decode cL_law 287 = .ok (.iload 4, 2) := by decide +kernel
theorem dL_law_289 : decode cL_law 289 = .ok (.iconst 4, 1) := by decide +kernel
theorem dL_law_290 : decode cL_law 290 = .ok (.iadd, 1) := by decide +kernel
theorem dL_law_291 : decode cL_law 291 = .ok (.iaload, 1) := by decide +kernel
theorem dL_law_292 : decode cL_law 292 = .ok (.invokevirtual 99, 3) := by decide +kernel
theorem dL_law_295 : decode cL_law 295 = .ok (.istore 6, 2) := by decide +kernel
theorem dL_law_297 : decode cL_law 297 = .ok (.aload_n 2, 1) := by decide +kernel
theorem dL_law_298 : decode cL_law 298 = .ok (.invokevirtual 93, 3) := by decide +kernel
theorem dL_law_301 : decode cL_law 301 = .ok (.iload 5, 2) := by decide +kernel
theorem dL_law_303 : decode cL_law 303 = .ok (.if_icmp .eq 5, 3) := by decide +kernel
theorem dL_law_306 : decode cL_law 306 = .ok (.iconst 0, 1) := by decide +kernel
theorem dL_law_307 : decode cL_law 307 = .ok (.ireturn, 1) := by decide +kernel
theorem dL_law_308 : decode cL_law 308 = .ok (.iload 5, 2) := by decide +kernel
theorem dL_law_310 : decode cL_law 310 = .ok (.ifCond .ne 15, 3) := by decide +kernel
theorem dL_law_313 : decode cL_law 313 = .ok (.aload_n 3, 1) := by decide +kernel
theorem dL_law_314 : decode cL_law 314 = .ok (.iconst 0, 1) := by decide +kernel
theorem dL_law_315 : decode cL_law 315 = .ok (.laload, 1) := by decide +kernel
theorem dL_law_316 : decode cL_law 316 = .ok (.iload 6, 2) := by decide +kernel
theorem dL_law_318 : decode cL_law 318 = .ok (.i2l, 1) := by decide +kernel
theorem dL_law_319 : decode cL_law 319 = .ok (.lcmp, 1) := by decide +kernel
theorem dL_law_320 : decode cL_law 320 = .ok (.ifCond .eq 5, 3) := by decide +kernel
theorem dL_law_323 : decode cL_law 323 = .ok (.iconst 0, 1) := by decide +kernel
theorem dL_law_324 : decode cL_law 324 = .ok (.ireturn, 1) := by decide +kernel
theorem dL_law_325 : decode cL_law 325 = .ok (.goto 1317, 3) := by decide +kernel
theorem dL_law_328 : decode cL_law 328 = .ok (.aload_n 1, 1) := by decide +kernel
theorem dL_law_329 : decode cL_law 329 = .ok (.aload_n 0, 1) := by decide +kernel
theorem dL_law_330 : decode cL_law 330 = .ok (.iload 4, 2) := by decide +kernel
theorem dL_law_332 : decode cL_law 332 = .ok (.iconst 1, 1) := by decide +kernel
theorem dL_law_333 : decode cL_law 333 = .ok (.iadd, 1) := by decide +kernel
theorem dL_law_334 : decode cL_law 334 = .ok (.iaload, 1) := by decide +kernel
theorem dL_law_335 : decode cL_law 335 = .ok (.aload_n 0, 1) := by decide +kernel
theorem dL_law_336 : decode cL_law 336 = .ok (.iload 4, 2) := by decide +kernel
theorem dL_law_338 : decode cL_law 338 = .ok (.iconst 2, 1) := by decide +kernel
theorem dL_law_339 : decode cL_law 339 = .ok (.iadd, 1) := by decide +kernel
theorem dL_law_340 : decode cL_law 340 = .ok (.iaload, 1) := by decide +kernel
theorem dL_law_341 : decode cL_law 341 = .ok (.aload_n 3, 1) := by decide +kernel
theorem dL_law_342 : decode cL_law 342 = .ok (.invokestatic 100, 3) := by decide +kernel
theorem dL_law_345 : decode cL_law 345 = .ok (.istore 5, 2) := by decide +kernel
theorem dL_law_347 : decode cL_law 347 = .ok (.aload_n 2, 1) := by decide +kernel
theorem dL_law_348 : decode cL_law 348 = .ok (.aload_n 0, 1) := by decide +kernel
theorem dL_law_349 : decode cL_law 349 = .ok (.iload 4, 2) := by decide +kernel
theorem dL_law_351 : decode cL_law 351 = .ok (.iconst 1, 1) := by decide +kernel
theorem dL_law_352 : decode cL_law 352 = .ok (.iadd, 1) := by decide +kernel
theorem dL_law_353 : decode cL_law 353 = .ok (.iaload, 1) := by decide +kernel
theorem dL_law_354 : decode cL_law 354 = .ok (.aload_n 0, 1) := by decide +kernel
theorem dL_law_355 : decode cL_law 355 = .ok (.iload 4, 2) := by decide +kernel
theorem dL_law_357 : decode cL_law 357 = .ok (.iconst 2, 1) := by decide +kernel
theorem dL_law_358 : decode cL_law 358 = .ok (.iadd, 1) := by decide +kernel
theorem dL_law_359 : decode cL_law 359 = .ok (.iaload, 1) := by decide +kernel
theorem dL_law_360 : decode cL_law 360 = .ok (.invokevirtual 103, 3) := by decide +kernel
theorem dL_law_363 : decode cL_law 363 = .ok (.istore 6, 2) := by decide +kernel
theorem dL_law_365 : decode cL_law 365 = .ok (.aload_n 2, 1) := by decide +kernel
theorem dL_law_366 : decode cL_law 366 = .ok (.invokevirtual 93, 3) := by decide +kernel
theorem dL_law_369 : decode cL_law 369 = .ok (.iload 5, 2) := by decide +kernel
theorem dL_law_371 : decode cL_law 371 = .ok (.if_icmp .eq 5, 3) := by decide +kernel
theorem dL_law_374 : decode cL_law 374 = .ok (.iconst 0, 1) := by decide +kernel
theorem dL_law_375 : decode cL_law 375 = .ok (.ireturn, 1) := by decide +kernel
theorem dL_law_376 : decode cL_law 376 = .ok (.iload 5, 2) := by decide +kernel
theorem dL_law_378 : decode cL_law 378 = .ok (.ifCond .ne 15, 3) := by decide +kernel
theorem dL_law_381 : decode cL_law 381 = .ok (.aload_n 3, 1) := by decide +kernel
theorem dL_law_382 : decode cL_law 382 = .ok (.iconst 0, 1) := by decide +kernel
theorem dL_law_383 : decode cL_law 383 = .ok (.laload, 1) := by decide +kernel
theorem dL_law_384 : decode cL_law 384 = .ok (.iload 6, 2) := by decide +kernel
theorem dL_law_386 : decode cL_law 386 = .ok (.i2l, 1) := by decide +kernel
theorem dL_law_387 : decode cL_law 387 = .ok (.lcmp, 1) := by decide +kernel
theorem dL_law_388 : decode cL_law 388 = .ok (.ifCond .eq 5, 3) := by decide +kernel
theorem dL_law_391 : decode cL_law 391 = .ok (.iconst 0, 1) := by decide +kernel
theorem dL_law_392 : decode cL_law 392 = .ok (.ireturn, 1) := by decide +kernel
theorem dL_law_393 : decode cL_law 393 = .ok (.goto 1249, 3) := by decide +kernel
theorem dL_law_396 : decode cL_law 396 = .ok (.aload_n 1, 1) := by decide +kernel
theorem dL_law_397 : decode cL_law 397 = .ok (.aload_n 0, 1) := by decide +kernel
theorem dL_law_398 : decode cL_law 398 = .ok (.iload 4, 2) := by decide +kernel
theorem dL_law_400 : decode cL_law 400 = .ok (.iconst 1, 1) := by decide +kernel
theorem dL_law_401 : decode cL_law 401 = .ok (.iadd, 1) := by decide +kernel
theorem dL_law_402 : decode cL_law 402 = .ok (.iaload, 1) := by decide +kernel
theorem dL_law_403 : decode cL_law 403 = .ok (.aload_n 0, 1) := by decide +kernel
theorem dL_law_404 : decode cL_law 404 = .ok (.iload 4, 2) := by decide +kernel
theorem dL_law_406 : decode cL_law 406 = .ok (.iconst 2, 1) := by decide +kernel
theorem dL_law_407 : decode cL_law 407 = .ok (.iadd, 1) := by decide +kernel
theorem dL_law_408 : decode cL_law 408 = .ok (.iaload, 1) := by decide +kernel
theorem dL_law_409 : decode cL_law 409 = .ok (.aload_n 3, 1) := by decide +kernel
theorem dL_law_410 : decode cL_law 410 = .ok (.invokestatic 104, 3) := by decide +kernel
theorem dL_law_413 : decode cL_law 413 = .ok (.istore 5, 2) := by decide +kernel
theorem dL_law_415 : decode cL_law 415 = .ok (.aload_n 2, 1) := by decide +kernel
theorem dL_law_416 : decode cL_law 416 = .ok (.aload_n 0, 1) := by decide +kernel
theorem dL_law_417 : decode cL_law 417 = .ok (.iload 4, 2) := by decide +kernel
theorem dL_law_419 : decode cL_law 419 = .ok (.iconst 1, 1) := by decide +kernel
theorem dL_law_420 : decode cL_law 420 = .ok (.iadd, 1) := by decide +kernel
theorem dL_law_421 : decode cL_law 421 = .ok (.iaload, 1) := by decide +kernel
theorem dL_law_422 : decode cL_law 422 = .ok (.aload_n 0, 1) := by decide +kernel
theorem dL_law_423 : decode cL_law 423 = .ok (.iload 4, 2) := by decide +kernel
theorem dL_law_425 : decode cL_law 425 = .ok (.iconst 2, 1) := by decide +kernel
theorem dL_law_426 : decode cL_law 426 = .ok (.iadd, 1) := by decide +kernel
theorem dL_law_427 : decode cL_law 427 = .ok (.iaload, 1) := by decide +kernel
theorem dL_law_428 : decode cL_law 428 = .ok (.invokevirtual 106, 3) := by decide +kernel
theorem dL_law_431 : decode cL_law 431 = .ok (.istore 6, 2) := by decide +kernel
theorem dL_law_433 : decode cL_law 433 = .ok (.aload_n 2, 1) := by decide +kernel
theorem dL_law_434 : decode cL_law 434 = .ok (.invokevirtual 93, 3) := by decide +kernel
theorem dL_law_437 : decode cL_law 437 = .ok (.iload 5, 2) := by decide +kernel
theorem dL_law_439 : decode cL_law 439 = .ok (.if_icmp .eq 5, 3) := by decide +kernel
theorem dL_law_442 : decode cL_law 442 = .ok (.iconst 0, 1) := by decide +kernel
theorem dL_law_443 : decode cL_law 443 = .ok (.ireturn, 1) := by decide +kernel
theorem dL_law_444 : decode cL_law 444 = .ok (.iload 5, 2) := by decide +kernel
theorem dL_law_446 : decode cL_law 446 = .ok (.ifCond .ne 15, 3) := by decide +kernel
theorem dL_law_449 : decode cL_law 449 = .ok (.aload_n 3, 1) := by decide +kernel
theorem dL_law_450 : decode cL_law 450 = .ok (.iconst 0, 1) := by decide +kernel
theorem dL_law_451 : decode cL_law 451 = .ok (.laload, 1) := by decide +kernel
theorem dL_law_452 : decode cL_law 452 = .ok (.iload 6, 2) := by decide +kernel
theorem dL_law_454 : decode cL_law 454 = .ok (.i2l, 1) := by decide +kernel
theorem dL_law_455 : decode cL_law 455 = .ok (.lcmp, 1) := by decide +kernel
theorem dL_law_456 : decode cL_law 456 = .ok (.ifCond .eq 5, 3) := by decide +kernel
theorem dL_law_459 : decode cL_law 459 = .ok (.iconst 0, 1) := by decide +kernel
theorem dL_law_460 : decode cL_law 460 = .ok (.ireturn, 1) := by decide +kernel
theorem dL_law_461 : decode cL_law 461 = .ok (.goto 1181, 3) := by decide +kernel
theorem dL_law_464 : decode cL_law 464 = .ok (.aload_n 1, 1) := by decide +kernel
theorem dL_law_465 : decode cL_law 465 = .ok (.aload_n 0, 1) := by decide +kernel
theorem dL_law_466 : decode cL_law 466 = .ok (.iload 4, 2) := by decide +kernel
theorem dL_law_468 : decode cL_law 468 = .ok (.iconst 1, 1) := by decide +kernel
theorem dL_law_469 : decode cL_law 469 = .ok (.iadd, 1) := by decide +kernel
theorem dL_law_470 : decode cL_law 470 = .ok (.iaload, 1) := by decide +kernel
theorem dL_law_471 : decode cL_law 471 = .ok (.aload_n 0, 1) := by decide +kernel
theorem dL_law_472 : decode cL_law 472 = .ok (.iload 4, 2) := by decide +kernel
theorem dL_law_474 : decode cL_law 474 = .ok (.iconst 2, 1) := by decide +kernel
theorem dL_law_475 : decode cL_law 475 = .ok (.iadd, 1) := by decide +kernel
theorem dL_law_476 : decode cL_law 476 = .ok (.iaload, 1) := by decide +kernel
theorem dL_law_477 : decode cL_law 477 = .ok (.aload_n 0, 1) := by decide +kernel
theorem dL_law_478 : decode cL_law 478 = .ok (.iload 4, 2) := by decide +kernel
theorem dL_law_480 : decode cL_law 480 = .ok (.iconst 3, 1) := by decide +kernel
theorem dL_law_481 : decode cL_law 481 = .ok (.iadd, 1) := by decide +kernel
theorem dL_law_482 : decode cL_law 482 = .ok (.iaload, 1) := by decide +kernel
theorem dL_law_483 : decode cL_law 483 = .ok (.aload_n 0, 1) := by decide +kernel
theorem dL_law_484 : decode cL_law 484 = .ok (.iload 4, 2) := by decide +kernel
theorem dL_law_486 : decode cL_law 486 = .ok (.iconst 4, 1) := by decide +kernel
theorem dL_law_487 : decode cL_law 487 = .ok (.iadd, 1) := by decide +kernel
theorem dL_law_488 : decode cL_law 488 = .ok (.iaload, 1) := by decide +kernel
theorem dL_law_489 : decode cL_law 489 = .ok (.aload_n 3, 1) := by decide +kernel
theorem dL_law_490 : decode cL_law 490 = .ok (.invokestatic 107, 3) := by decide +kernel
theorem dL_law_493 : decode cL_law 493 = .ok (.istore 5, 2) := by decide +kernel
theorem dL_law_495 : decode cL_law 495 = .ok (.aload_n 2, 1) := by decide +kernel
theorem dL_law_496 : decode cL_law 496 = .ok (.aload_n 0, 1) := by decide +kernel
theorem dL_law_497 : decode cL_law 497 = .ok (.iload 4, 2) := by decide +kernel
theorem dL_law_499 : decode cL_law 499 = .ok (.iconst 1, 1) := by decide +kernel
theorem dL_law_500 : decode cL_law 500 = .ok (.iadd, 1) := by decide +kernel
theorem dL_law_501 : decode cL_law 501 = .ok (.iaload, 1) := by decide +kernel
theorem dL_law_502 : decode cL_law 502 = .ok (.aload_n 0, 1) := by decide +kernel
theorem dL_law_503 : decode cL_law 503 = .ok (.iload 4, 2) := by decide +kernel
theorem dL_law_505 : decode cL_law 505 = .ok (.iconst 2, 1) := by decide +kernel
theorem dL_law_506 : decode cL_law 506 = .ok (.iadd, 1) := by decide +kernel
theorem dL_law_507 : decode cL_law 507 = .ok (.iaload, 1) := by decide +kernel
theorem dL_law_508 : decode cL_law 508 = .ok (.aload_n 0, 1) := by decide +kernel
theorem dL_law_509 : decode cL_law 509 = .ok (.iload 4, 2) := by decide +kernel
theorem dL_law_511 : decode cL_law 511 = .ok (.iconst 3, 1) := by decide +kernel
theorem dL_law_512 : decode cL_law 512 = .ok (.iadd, 1) := by decide +kernel
theorem dL_law_513 : decode cL_law 513 = .ok (.iaload, 1) := by decide +kernel
theorem dL_law_514 : decode cL_law 514 = .ok (.aload_n 0, 1) := by decide +kernel
theorem dL_law_515 : decode cL_law 515 = .ok (.iload 4, 2) := by decide +kernel
theorem dL_law_517 : decode cL_law 517 = .ok (.iconst 4, 1) := by decide +kernel
theorem dL_law_518 : decode cL_law 518 = .ok (.iadd, 1) := by decide +kernel
theorem dL_law_519 : decode cL_law 519 = .ok (.iaload, 1) := by decide +kernel
theorem dL_law_520 : decode cL_law 520 = .ok (.invokevirtual 109, 3) := by decide +kernel
theorem dL_law_523 : decode cL_law 523 = .ok (.istore 6, 2) := by decide +kernel
theorem dL_law_525 : decode cL_law 525 = .ok (.aload_n 2, 1) := by decide +kernel
theorem dL_law_526 : decode cL_law 526 = .ok (.invokevirtual 93, 3) := by decide +kernel
theorem dL_law_529 : decode cL_law 529 = .ok (.iload 5, 2) := by decide +kernel
theorem dL_law_531 : decode cL_law 531 = .ok (.if_icmp .eq 5, 3) := by decide +kernel
theorem dL_law_534 : decode cL_law 534 = .ok (.iconst 0, 1) := by decide +kernel
theorem dL_law_535 : decode cL_law 535 = .ok (.ireturn, 1) := by decide +kernel
theorem dL_law_536 : decode cL_law 536 = .ok (.iload 5, 2) := by decide +kernel
theorem dL_law_538 : decode cL_law 538 = .ok (.ifCond .ne 15, 3) := by decide +kernel
theorem dL_law_541 : decode cL_law 541 = .ok (.aload_n 3, 1) := by decide +kernel
theorem dL_law_542 : decode cL_law 542 = .ok (.iconst 0, 1) := by decide +kernel
theorem dL_law_543 : decode cL_law 543 = .ok (.laload, 1) := by decide +kernel
theorem dL_law_544 : decode cL_law 544 = .ok (.iload 6, 2) := by decide +kernel
theorem dL_law_546 : decode cL_law 546 = .ok (.i2l, 1) := by decide +kernel
theorem dL_law_547 : decode cL_law 547 = .ok (.lcmp, 1) := by decide +kernel
theorem dL_law_548 : decode cL_law 548 = .ok (.ifCond .eq 5, 3) := by decide +kernel
theorem dL_law_551 : decode cL_law 551 = .ok (.iconst 0, 1) := by decide +kernel
theorem dL_law_552 : decode cL_law 552 = .ok (.ireturn, 1) := by decide +kernel
theorem dL_law_553 : decode cL_law 553 = .ok (.goto 1089, 3) := by decide +kernel
theorem dL_law_556 : decode cL_law 556 = .ok (.aload_n 1, 1) := by decide +kernel
theorem dL_law_557 : decode cL_law 557 = .ok (.aload_n 0, 1) := by decide +kernel
theorem dL_law_558 : decode cL_law 558 = .ok (.iload 4, 2) := by decide +kernel
theorem dL_law_560 : decode cL_law 560 = .ok (.iconst 1, 1) := by decide +kernel
theorem dL_law_561 : decode cL_law 561 = .ok (.iadd, 1) := by decide +kernel
theorem dL_law_562 : decode cL_law 562 = .ok (.iaload, 1) := by decide +kernel
theorem dL_law_563 : decode cL_law 563 = .ok (.aload_n 3, 1) := by decide +kernel
theorem dL_law_564 : decode cL_law 564 = .ok (.invokestatic 110, 3) := by decide +kernel
theorem dL_law_567 : decode cL_law 567 = .ok (.istore 5, 2) := by decide +kernel
theorem dL_law_569 : decode cL_law 569 = .ok (.aload_n 2, 1) := by decide +kernel
theorem dL_law_570 : decode cL_law 570 = .ok (.aload_n 0, 1) := by decide +kernel
theorem dL_law_571 : decode cL_law 571 = .ok (.iload 4, 2) := by decide +kernel
theorem dL_law_573 : decode cL_law 573 = .ok (.iconst 1, 1) := by decide +kernel
theorem dL_law_574 : decode cL_law 574 = .ok (.iadd, 1) := by decide +kernel
theorem dL_law_575 : decode cL_law 575 = .ok (.iaload, 1) := by decide +kernel
theorem dL_law_576 : decode cL_law 576 = .ok (.invokevirtual 113, 3) := by decide +kernel
theorem dL_law_579 : decode cL_law 579 = .ok (.istore 6, 2) := by decide +kernel
theorem dL_law_581 : decode cL_law 581 = .ok (.aload_n 2, 1) := by decide +kernel
theorem dL_law_582 : decode cL_law 582 = .ok (.invokevirtual 93, 3) := by decide +kernel
theorem dL_law_585 : decode cL_law 585 = .ok (.iload 5, 2) := by decide +kernel
theorem dL_law_587 : decode cL_law 587 = .ok (.if_icmp .eq 5, 3) := by decide +kernel
theorem dL_law_590 : decode cL_law 590 = .ok (.iconst 0, 1) := by decide +kernel
theorem dL_law_591 : decode cL_law 591 = .ok (.ireturn, 1) := by decide +kernel
theorem dL_law_592 : decode cL_law 592 = .ok (.iload 5, 2) := by decide +kernel
theorem dL_law_594 : decode cL_law 594 = .ok (.ifCond .ne 15, 3) := by decide +kernel
theorem dL_law_597 : decode cL_law 597 = .ok (.aload_n 3, 1) := by decide +kernel
theorem dL_law_598 : decode cL_law 598 = .ok (.iconst 0, 1) := by decide +kernel
theorem dL_law_599 : decode cL_law 599 = .ok (.laload, 1) := by decide +kernel
theorem dL_law_600 : decode cL_law 600 = .ok (.iload 6, 2) := by decide +kernel
theorem dL_law_602 : decode cL_law 602 = .ok (.i2l, 1) := by decide +kernel
theorem dL_law_603 : decode cL_law 603 = .ok (.lcmp, 1) := by decide +kernel
theorem dL_law_604 : decode cL_law 604 = .ok (.ifCond .eq 5, 3) := by decide +kernel
theorem dL_law_607 : decode cL_law 607 = .ok (.iconst 0, 1) := by decide +kernel
theorem dL_law_608 : decode cL_law 608 = .ok (.ireturn, 1) := by decide +kernel
theorem dL_law_609 : decode cL_law 609 = .ok (.goto 1033, 3) := by decide +kernel
theorem dL_law_612 : decode cL_law 612 = .ok (.aload_n 1, 1) := by decide +kernel
theorem dL_law_613 : decode cL_law 613 = .ok (.aload_n 0, 1) := by decide +kernel
theorem dL_law_614 : decode cL_law 614 = .ok (.iload 4, 2) := by decide +kernel
theorem dL_law_616 : decode cL_law 616 = .ok (.iconst 1, 1) := by decide +kernel
theorem dL_law_617 : decode cL_law 617 = .ok (.iadd, 1) := by decide +kernel
theorem dL_law_618 : decode cL_law 618 = .ok (.iaload, 1) := by decide +kernel
theorem dL_law_619 : decode cL_law 619 = .ok (.aload_n 0, 1) := by decide +kernel
theorem dL_law_620 : decode cL_law 620 = .ok (.iload 4, 2) := by decide +kernel
theorem dL_law_622 : decode cL_law 622 = .ok (.iconst 2, 1) := by decide +kernel
theorem dL_law_623 : decode cL_law 623 = .ok (.iadd, 1) := by decide +kernel
theorem dL_law_624 : decode cL_law 624 = .ok (.iaload, 1) := by decide +kernel
theorem dL_law_625 : decode cL_law 625 = .ok (.aload_n 0, 1) := by decide +kernel
theorem dL_law_626 : decode cL_law 626 = .ok (.iload 4, 2) := by decide +kernel
theorem dL_law_628 : decode cL_law 628 = .ok (.iconst 3, 1) := by decide +kernel
theorem dL_law_629 : decode cL_law 629 = .ok (.iadd, 1) := by decide +kernel
theorem dL_law_630 : decode cL_law 630 = .ok (.iaload, 1) := by decide +kernel
theorem dL_law_631 : decode cL_law 631 = .ok (.aload_n 3, 1) := by decide +kernel
theorem dL_law_632 : decode cL_law 632 = .ok (.invokestatic 114, 3) := by decide +kernel
theorem dL_law_635 : decode cL_law 635 = .ok (.istore 5, 2) := by decide +kernel
theorem dL_law_637 : decode cL_law 637 = .ok (.aload_n 2, 1) := by decide +kernel
theorem dL_law_638 : decode cL_law 638 = .ok (.aload_n 0, 1) := by decide +kernel
theorem dL_law_639 : decode cL_law 639 = .ok (.iload 4, 2) := by decide +kernel
theorem dL_law_641 : decode cL_law 641 = .ok (.iconst 1, 1) := by decide +kernel
theorem dL_law_642 : decode cL_law 642 = .ok (.iadd, 1) := by decide +kernel
theorem dL_law_643 : decode cL_law 643 = .ok (.iaload, 1) := by decide +kernel
theorem dL_law_644 : decode cL_law 644 = .ok (.aload_n 0, 1) := by decide +kernel
theorem dL_law_645 : decode cL_law 645 = .ok (.iload 4, 2) := by decide +kernel
theorem dL_law_647 : decode cL_law 647 = .ok (.iconst 2, 1) := by decide +kernel
theorem dL_law_648 : decode cL_law 648 = .ok (.iadd, 1) := by decide +kernel
theorem dL_law_649 : decode cL_law 649 = .ok (.iaload, 1) := by decide +kernel
theorem dL_law_650 : decode cL_law 650 = .ok (.aload_n 0, 1) := by decide +kernel
theorem dL_law_651 : decode cL_law 651 = .ok (.iload 4, 2) := by decide +kernel
theorem dL_law_653 : decode cL_law 653 = .ok (.iconst 3, 1) := by decide +kernel
theorem dL_law_654 : decode cL_law 654 = .ok (.iadd, 1) := by decide +kernel
theorem dL_law_655 : decode cL_law 655 = .ok (.iaload, 1) := by decide +kernel
theorem dL_law_656 : decode cL_law 656 = .ok (.invokevirtual 116, 3) := by decide +kernel
theorem dL_law_659 : decode cL_law 659 = .ok (.istore 6, 2) := by decide +kernel
theorem dL_law_661 : decode cL_law 661 = .ok (.aload_n 2, 1) := by decide +kernel
theorem dL_law_662 : decode cL_law 662 = .ok (.invokevirtual 93, 3) := by decide +kernel
theorem dL_law_665 : decode cL_law 665 = .ok (.iload 5, 2) := by decide +kernel
theorem dL_law_667 : decode cL_law 667 = .ok (.if_icmp .eq 5, 3) := by decide +kernel
theorem dL_law_670 : decode cL_law 670 = .ok (.iconst 0, 1) := by decide +kernel
theorem dL_law_671 : decode cL_law 671 = .ok (.ireturn, 1) := by decide +kernel
theorem dL_law_672 : decode cL_law 672 = .ok (.iload 5, 2) := by decide +kernel
theorem dL_law_674 : decode cL_law 674 = .ok (.ifCond .ne 15, 3) := by decide +kernel
theorem dL_law_677 : decode cL_law 677 = .ok (.aload_n 3, 1) := by decide +kernel
theorem dL_law_678 : decode cL_law 678 = .ok (.iconst 0, 1) := by decide +kernel
theorem dL_law_679 : decode cL_law 679 = .ok (.laload, 1) := by decide +kernel
theorem dL_law_680 : decode cL_law 680 = .ok (.iload 6, 2) := by decide +kernel
theorem dL_law_682 : decode cL_law 682 = .ok (.i2l, 1) := by decide +kernel
theorem dL_law_683 : decode cL_law 683 = .ok (.lcmp, 1) := by decide +kernel
theorem dL_law_684 : decode cL_law 684 = .ok (.ifCond .eq 5, 3) := by decide +kernel
theorem dL_law_687 : decode cL_law 687 = .ok (.iconst 0, 1) := by decide +kernel
theorem dL_law_688 : decode cL_law 688 = .ok (.ireturn, 1) := by decide +kernel
theorem dL_law_689 : decode cL_law 689 = .ok (.goto 953, 3) := by decide +kernel
theorem dL_law_692 : decode cL_law 692 = .ok (.aload_n 1, 1) := by decide +kernel
theorem dL_law_693 : decode cL_law 693 = .ok (.aload_n 0, 1) := by decide +kernel
theorem dL_law_694 : decode cL_law 694 = .ok (.iload 4, 2) := by decide +kernel
theorem dL_law_696 : decode cL_law 696 = .ok (.iconst 1, 1) := by decide +kernel
theorem dL_law_697 : decode cL_law 697 = .ok (.iadd, 1) := by decide +kernel
theorem dL_law_698 : decode cL_law 698 = .ok (.iaload, 1) := by decide +kernel
theorem dL_law_699 : decode cL_law 699 = .ok (.aload_n 3, 1) := by decide +kernel
theorem dL_law_700 : decode cL_law 700 = .ok (.invokestatic 117, 3) := by decide +kernel
theorem dL_law_703 : decode cL_law 703 = .ok (.istore 5, 2) := by decide +kernel
theorem dL_law_705 : decode cL_law 705 = .ok (.aload_n 2, 1) := by decide +kernel
theorem dL_law_706 : decode cL_law 706 = .ok (.aload_n 0, 1) := by decide +kernel
theorem dL_law_707 : decode cL_law 707 = .ok (.iload 4, 2) := by decide +kernel
theorem dL_law_709 : decode cL_law 709 = .ok (.iconst 1, 1) := by decide +kernel
theorem dL_law_710 : decode cL_law 710 = .ok (.iadd, 1) := by decide +kernel
theorem dL_law_711 : decode cL_law 711 = .ok (.iaload, 1) := by decide +kernel
theorem dL_law_712 : decode cL_law 712 = .ok (.invokevirtual 119, 3) := by decide +kernel
theorem dL_law_715 : decode cL_law 715 = .ok (.istore 6, 2) := by decide +kernel
theorem dL_law_717 : decode cL_law 717 = .ok (.aload_n 2, 1) := by decide +kernel
theorem dL_law_718 : decode cL_law 718 = .ok (.invokevirtual 93, 3) := by decide +kernel
theorem dL_law_721 : decode cL_law 721 = .ok (.iload 5, 2) := by decide +kernel
theorem dL_law_723 : decode cL_law 723 = .ok (.if_icmp .eq 5, 3) := by decide +kernel
theorem dL_law_726 : decode cL_law 726 = .ok (.iconst 0, 1) := by decide +kernel
theorem dL_law_727 : decode cL_law 727 = .ok (.ireturn, 1) := by decide +kernel
theorem dL_law_728 : decode cL_law 728 = .ok (.iload 5, 2) := by decide +kernel
theorem dL_law_730 : decode cL_law 730 = .ok (.ifCond .ne 15, 3) := by decide +kernel
theorem dL_law_733 : decode cL_law 733 = .ok (.aload_n 3, 1) := by decide +kernel
theorem dL_law_734 : decode cL_law 734 = .ok (.iconst 0, 1) := by decide +kernel
theorem dL_law_735 : decode cL_law 735 = .ok (.laload, 1) := by decide +kernel
theorem dL_law_736 : decode cL_law 736 = .ok (.iload 6, 2) := by decide +kernel
theorem dL_law_738 : decode cL_law 738 = .ok (.i2l, 1) := by decide +kernel
theorem dL_law_739 : decode cL_law 739 = .ok (.lcmp, 1) := by decide +kernel
theorem dL_law_740 : decode cL_law 740 = .ok (.ifCond .eq 5, 3) := by decide +kernel
theorem dL_law_743 : decode cL_law 743 = .ok (.iconst 0, 1) := by decide +kernel
theorem dL_law_744 : decode cL_law 744 = .ok (.ireturn, 1) := by decide +kernel
theorem dL_law_745 : decode cL_law 745 = .ok (.goto 897, 3) := by decide +kernel
theorem dL_law_748 : decode cL_law 748 = .ok (.aload_n 1, 1) := by decide +kernel
theorem dL_law_749 : decode cL_law 749 = .ok (.aload_n 0, 1) := by decide +kernel
theorem dL_law_750 : decode cL_law 750 = .ok (.iload 4, 2) := by decide +kernel
theorem dL_law_752 : decode cL_law 752 = .ok (.iconst 1, 1) := by decide +kernel
theorem dL_law_753 : decode cL_law 753 = .ok (.iadd, 1) := by decide +kernel
theorem dL_law_754 : decode cL_law 754 = .ok (.iaload, 1) := by decide +kernel
theorem dL_law_755 : decode cL_law 755 = .ok (.aload_n 3, 1) := by decide +kernel
theorem dL_law_756 : decode cL_law 756 = .ok (.invokestatic 120, 3) := by decide +kernel
theorem dL_law_759 : decode cL_law 759 = .ok (.istore 5, 2) := by decide +kernel
theorem dL_law_761 : decode cL_law 761 = .ok (.aload_n 2, 1) := by decide +kernel
theorem dL_law_762 : decode cL_law 762 = .ok (.aload_n 0, 1) := by decide +kernel
theorem dL_law_763 : decode cL_law 763 = .ok (.iload 4, 2) := by decide +kernel
theorem dL_law_765 : decode cL_law 765 = .ok (.iconst 1, 1) := by decide +kernel
theorem dL_law_766 : decode cL_law 766 = .ok (.iadd, 1) := by decide +kernel
theorem dL_law_767 : decode cL_law 767 = .ok (.iaload, 1) := by decide +kernel
theorem dL_law_768 : decode cL_law 768 = .ok (.invokevirtual 122, 3) := by decide +kernel
theorem dL_law_771 : decode cL_law 771 = .ok (.istore 6, 2) := by decide +kernel
theorem dL_law_773 : decode cL_law 773 = .ok (.aload_n 2, 1) := by decide +kernel
theorem dL_law_774 : decode cL_law 774 = .ok (.invokevirtual 93, 3) := by decide +kernel
theorem dL_law_777 : decode cL_law 777 = .ok (.iload 5, 2) := by decide +kernel
theorem dL_law_779 : decode cL_law 779 = .ok (.if_icmp .eq 5, 3) := by decide +kernel
theorem dL_law_782 : decode cL_law 782 = .ok (.iconst 0, 1) := by decide +kernel
theorem dL_law_783 : decode cL_law 783 = .ok (.ireturn, 1) := by decide +kernel
theorem dL_law_784 : decode cL_law 784 = .ok (.iload 5, 2) := by decide +kernel
theorem dL_law_786 : decode cL_law 786 = .ok (.ifCond .ne 15, 3) := by decide +kernel
theorem dL_law_789 : decode cL_law 789 = .ok (.aload_n 3, 1) := by decide +kernel
theorem dL_law_790 : decode cL_law 790 = .ok (.iconst 0, 1) := by decide +kernel
theorem dL_law_791 : decode cL_law 791 = .ok (.laload, 1) := by decide +kernel
theorem dL_law_792 : decode cL_law 792 = .ok (.iload 6, 2) := by decide +kernel
theorem dL_law_794 : decode cL_law 794 = .ok (.i2l, 1) := by decide +kernel
theorem dL_law_795 : decode cL_law 795 = .ok (.lcmp, 1) := by decide +kernel
theorem dL_law_796 : decode cL_law 796 = .ok (.ifCond .eq 5, 3) := by decide +kernel
theorem dL_law_799 : decode cL_law 799 = .ok (.iconst 0, 1) := by decide +kernel
theorem dL_law_800 : decode cL_law 800 = .ok (.ireturn, 1) := by decide +kernel
theorem dL_law_801 : decode cL_law 801 = .ok (.goto 841, 3) := by decide +kernel
theorem dL_law_804 : decode cL_law 804 = .ok (.aload_n 1, 1) := by decide +kernel
theorem dL_law_805 : decode cL_law 805 = .ok (.aload_n 0, 1) := by decide +kernel
theorem dL_law_806 : decode cL_law 806 = .ok (.iload 4, 2) := by decide +kernel
theorem dL_law_808 : decode cL_law 808 = .ok (.iconst 1, 1) := by decide +kernel
theorem dL_law_809 : decode cL_law 809 = .ok (.iadd, 1) := by decide +kernel
theorem dL_law_810 : decode cL_law 810 = .ok (.iaload, 1) := by decide +kernel
theorem dL_law_811 : decode cL_law 811 = .ok (.aload_n 3, 1) := by decide +kernel
theorem dL_law_812 : decode cL_law 812 = .ok (.invokestatic 123, 3) := by decide +kernel
theorem dL_law_815 : decode cL_law 815 = .ok (.istore 5, 2) := by decide +kernel
theorem dL_law_817 : decode cL_law 817 = .ok (.aload_n 2, 1) := by decide +kernel
theorem dL_law_818 : decode cL_law 818 = .ok (.aload_n 0, 1) := by decide +kernel
theorem dL_law_819 : decode cL_law 819 = .ok (.iload 4, 2) := by decide +kernel
theorem dL_law_821 : decode cL_law 821 = .ok (.iconst 1, 1) := by decide +kernel
theorem dL_law_822 : decode cL_law 822 = .ok (.iadd, 1) := by decide +kernel
theorem dL_law_823 : decode cL_law 823 = .ok (.iaload, 1) := by decide +kernel
theorem dL_law_824 : decode cL_law 824 = .ok (.invokevirtual 125, 3) := by decide +kernel
theorem dL_law_827 : decode cL_law 827 = .ok (.istore 6, 2) := by decide +kernel
theorem dL_law_829 : decode cL_law 829 = .ok (.aload_n 2, 1) := by decide +kernel
theorem dL_law_830 : decode cL_law 830 = .ok (.invokevirtual 93, 3) := by decide +kernel
theorem dL_law_833 : decode cL_law 833 = .ok (.iload 5, 2) := by decide +kernel
theorem dL_law_835 : decode cL_law 835 = .ok (.if_icmp .eq 5, 3) := by decide +kernel
theorem dL_law_838 : decode cL_law 838 = .ok (.iconst 0, 1) := by decide +kernel
theorem dL_law_839 : decode cL_law 839 = .ok (.ireturn, 1) := by decide +kernel
theorem dL_law_840 : decode cL_law 840 = .ok (.iload 5, 2) := by decide +kernel
theorem dL_law_842 : decode cL_law 842 = .ok (.ifCond .ne 15, 3) := by decide +kernel
theorem dL_law_845 : decode cL_law 845 = .ok (.aload_n 3, 1) := by decide +kernel
theorem dL_law_846 : decode cL_law 846 = .ok (.iconst 0, 1) := by decide +kernel
theorem dL_law_847 : decode cL_law 847 = .ok (.laload, 1) := by decide +kernel
theorem dL_law_848 : decode cL_law 848 = .ok (.iload 6, 2) := by decide +kernel
theorem dL_law_850 : decode cL_law 850 = .ok (.i2l, 1) := by decide +kernel
theorem dL_law_851 : decode cL_law 851 = .ok (.lcmp, 1) := by decide +kernel
theorem dL_law_852 : decode cL_law 852 = .ok (.ifCond .eq 5, 3) := by decide +kernel
theorem dL_law_855 : decode cL_law 855 = .ok (.iconst 0, 1) := by decide +kernel
theorem dL_law_856 : decode cL_law 856 = .ok (.ireturn, 1) := by decide +kernel
theorem dL_law_857 : decode cL_law 857 = .ok (.goto 785, 3) := by decide +kernel
theorem dL_law_860 : decode cL_law 860 = .ok (.aload_n 1, 1) := by decide +kernel
theorem dL_law_861 : decode cL_law 861 = .ok (.invokevirtual 126, 3) := by decide +kernel
theorem dL_law_864 : decode cL_law 864 = .ok (.aload_n 2, 1) := by decide +kernel
theorem dL_law_865 : decode cL_law 865 = .ok (.invokevirtual 129, 3) := by decide +kernel
theorem dL_law_868 : decode cL_law 868 = .ok (.if_icmp .eq 774, 3) := by decide +kernel
theorem dL_law_871 : decode cL_law 871 = .ok (.iconst 0, 1) := by decide +kernel
theorem dL_law_872 : decode cL_law 872 = .ok (.ireturn, 1) := by decide +kernel
theorem dL_law_873 : decode cL_law 873 = .ok (.aload_n 1, 1) := by decide +kernel
theorem dL_law_874 : decode cL_law 874 = .ok (.invokevirtual 130, 3) := by decide +kernel
theorem dL_law_877 : decode cL_law 877 = .ok (.aload_n 2, 1) := by decide +kernel
theorem dL_law_878 : decode cL_law 878 = .ok (.invokevirtual 133, 3) := by decide +kernel
theorem dL_law_881 : decode cL_law 881 = .ok (.if_icmp .eq 761, 3) := by decide +kernel
theorem dL_law_884 : decode cL_law 884 = .ok (.iconst 0, 1) := by decide +kernel
theorem dL_law_885 : decode cL_law 885 = .ok (.ireturn, 1) := by decide +kernel
theorem dL_law_886 : decode cL_law 886 = .ok (.aload_n 1, 1) := by decide +kernel
theorem dL_law_887 : decode cL_law 887 = .ok (.aload_n 3, 1) := by decide +kernel
theorem dL_law_888 : decode cL_law 888 = .ok (.invokestatic 134, 3) := by decide +kernel
theorem dL_law_891 : decode cL_law 891 = .ok (.istore 5, 2) := by decide +kernel
theorem dL_law_893 : decode cL_law 893 = .ok (.aload_n 2, 1) := by decide +kernel
theorem dL_law_894 : decode cL_law 894 = .ok (.invokevirtual 137, 3) := by decide +kernel
theorem dL_law_897 : decode cL_law 897 = .ok (.istore 6, 2) := by decide +kernel
theorem dL_law_899 : decode cL_law 899 = .ok (.aload_n 2, 1) := by decide +kernel
theorem dL_law_900 : decode cL_law 900 = .ok (.invokevirtual 93, 3) := by decide +kernel
theorem dL_law_903 : decode cL_law 903 = .ok (.iload 5, 2) := by decide +kernel
theorem dL_law_905 : decode cL_law 905 = .ok (.if_icmp .eq 5, 3) := by decide +kernel
theorem dL_law_908 : decode cL_law 908 = .ok (.iconst 0, 1) := by decide +kernel
theorem dL_law_909 : decode cL_law 909 = .ok (.ireturn, 1) := by decide +kernel
theorem dL_law_910 : decode cL_law 910 = .ok (.iload 5, 2) := by decide +kernel
theorem dL_law_912 : decode cL_law 912 = .ok (.ifCond .ne 15, 3) := by decide +kernel
theorem dL_law_915 : decode cL_law 915 = .ok (.aload_n 3, 1) := by decide +kernel
theorem dL_law_916 : decode cL_law 916 = .ok (.iconst 0, 1) := by decide +kernel
theorem dL_law_917 : decode cL_law 917 = .ok (.laload, 1) := by decide +kernel
theorem dL_law_918 : decode cL_law 918 = .ok (.iload 6, 2) := by decide +kernel
theorem dL_law_920 : decode cL_law 920 = .ok (.i2l, 1) := by decide +kernel
theorem dL_law_921 : decode cL_law 921 = .ok (.lcmp, 1) := by decide +kernel
theorem dL_law_922 : decode cL_law 922 = .ok (.ifCond .eq 5, 3) := by decide +kernel
theorem dL_law_925 : decode cL_law 925 = .ok (.iconst 0, 1) := by decide +kernel
theorem dL_law_926 : decode cL_law 926 = .ok (.ireturn, 1) := by decide +kernel
theorem dL_law_927 : decode cL_law 927 = .ok (.goto 715, 3) := by decide +kernel
theorem dL_law_930 : decode cL_law 930 = .ok (.aload_n 1, 1) := by decide +kernel
theorem dL_law_931 : decode cL_law 931 = .ok (.aload_n 3, 1) := by decide +kernel
theorem dL_law_932 : decode cL_law 932 = .ok (.invokestatic 138, 3) := by decide +kernel
theorem dL_law_935 : decode cL_law 935 = .ok (.istore 5, 2) := by decide +kernel
theorem dL_law_937 : decode cL_law 937 = .ok (.aload_n 2, 1) := by decide +kernel
theorem dL_law_938 : decode cL_law 938 = .ok (.invokevirtual 140, 3) := by decide +kernel
theorem dL_law_941 : decode cL_law 941 = .ok (.istore 6, 2) := by decide +kernel
theorem dL_law_943 : decode cL_law 943 = .ok (.aload_n 2, 1) := by decide +kernel
theorem dL_law_944 : decode cL_law 944 = .ok (.invokevirtual 93, 3) := by decide +kernel
theorem dL_law_947 : decode cL_law 947 = .ok (.iload 5, 2) := by decide +kernel
theorem dL_law_949 : decode cL_law 949 = .ok (.if_icmp .eq 5, 3) := by decide +kernel
theorem dL_law_952 : decode cL_law 952 = .ok (.iconst 0, 1) := by decide +kernel
theorem dL_law_953 : decode cL_law 953 = .ok (.ireturn, 1) := by decide +kernel
theorem dL_law_954 : decode cL_law 954 = .ok (.iload 5, 2) := by decide +kernel
theorem dL_law_956 : decode cL_law 956 = .ok (.ifCond .ne 15, 3) := by decide +kernel
theorem dL_law_959 : decode cL_law 959 = .ok (.aload_n 3, 1) := by decide +kernel
theorem dL_law_960 : decode cL_law 960 = .ok (.iconst 0, 1) := by decide +kernel
theorem dL_law_961 : decode cL_law 961 = .ok (.laload, 1) := by decide +kernel
theorem dL_law_962 : decode cL_law 962 = .ok (.iload 6, 2) := by decide +kernel
theorem dL_law_964 : decode cL_law 964 = .ok (.i2l, 1) := by decide +kernel
theorem dL_law_965 : decode cL_law 965 = .ok (.lcmp, 1) := by decide +kernel
theorem dL_law_966 : decode cL_law 966 = .ok (.ifCond .eq 5, 3) := by decide +kernel
theorem dL_law_969 : decode cL_law 969 = .ok (.iconst 0, 1) := by decide +kernel
theorem dL_law_970 : decode cL_law 970 = .ok (.ireturn, 1) := by decide +kernel
theorem dL_law_971 : decode cL_law 971 = .ok (.goto 671, 3) := by decide +kernel
theorem dL_law_974 : decode cL_law 974 = .ok (.aload_n 1, 1) := by decide +kernel
theorem dL_law_975 : decode cL_law 975 = .ok (.aload_n 0, 1) := by decide +kernel
theorem dL_law_976 : decode cL_law 976 = .ok (.iload 4, 2) := by decide +kernel
theorem dL_law_978 : decode cL_law 978 = .ok (.iconst 1, 1) := by decide +kernel
theorem dL_law_979 : decode cL_law 979 = .ok (.iadd, 1) := by decide +kernel
theorem dL_law_980 : decode cL_law 980 = .ok (.iaload, 1) := by decide +kernel
theorem dL_law_981 : decode cL_law 981 = .ok (.aload_n 0, 1) := by decide +kernel
theorem dL_law_982 : decode cL_law 982 = .ok (.iload 4, 2) := by decide +kernel
theorem dL_law_984 : decode cL_law 984 = .ok (.iconst 2, 1) := by decide +kernel
theorem dL_law_985 : decode cL_law 985 = .ok (.iadd, 1) := by decide +kernel
theorem dL_law_986 : decode cL_law 986 = .ok (.iaload, 1) := by decide +kernel
theorem dL_law_987 : decode cL_law 987 = .ok (.aload_n 3, 1) := by decide +kernel
theorem dL_law_988 : decode cL_law 988 = .ok (.invokestatic 141, 3) := by decide +kernel
theorem dL_law_991 : decode cL_law 991 = .ok (.istore 5, 2) := by decide +kernel
theorem dL_law_993 : decode cL_law 993 = .ok (.aload_n 2, 1) := by decide +kernel
theorem dL_law_994 : decode cL_law 994 = .ok (.aload_n 0, 1) := by decide +kernel
theorem dL_law_995 : decode cL_law 995 = .ok (.iload 4, 2) := by decide +kernel
theorem dL_law_997 : decode cL_law 997 = .ok (.iconst 1, 1) := by decide +kernel
theorem dL_law_998 : decode cL_law 998 = .ok (.iadd, 1) := by decide +kernel
theorem dL_law_999 : decode cL_law 999 = .ok (.iaload, 1) := by decide +kernel
theorem dL_law_1000 : decode cL_law 1000 = .ok (.aload_n 0, 1) := by decide +kernel
theorem dL_law_1001 : decode cL_law 1001 = .ok (.iload 4, 2) := by decide +kernel
theorem dL_law_1003 : decode cL_law 1003 = .ok (.iconst 2, 1) := by decide +kernel
theorem dL_law_1004 : decode cL_law 1004 = .ok (.iadd, 1) := by decide +kernel
theorem dL_law_1005 : decode cL_law 1005 = .ok (.iaload, 1) := by decide +kernel
theorem dL_law_1006 : decode cL_law 1006 = .ok (.invokevirtual 143, 3) := by decide +kernel
theorem dL_law_1009 : decode cL_law 1009 = .ok (.istore 6, 2) := by decide +kernel
theorem dL_law_1011 : decode cL_law 1011 = .ok (.aload_n 2, 1) := by decide +kernel
theorem dL_law_1012 : decode cL_law 1012 = .ok (.invokevirtual 93, 3) := by decide +kernel
theorem dL_law_1015 : decode cL_law 1015 = .ok (.iload 5, 2) := by decide +kernel
theorem dL_law_1017 : decode cL_law 1017 = .ok (.if_icmp .eq 5, 3) := by decide +kernel
theorem dL_law_1020 : decode cL_law 1020 = .ok (.iconst 0, 1) := by decide +kernel
theorem dL_law_1021 : decode cL_law 1021 = .ok (.ireturn, 1) := by decide +kernel
theorem dL_law_1022 : decode cL_law 1022 = .ok (.iload 5, 2) := by decide +kernel
theorem dL_law_1024 : decode cL_law 1024 = .ok (.ifCond .ne 15, 3) := by decide +kernel
theorem dL_law_1027 : decode cL_law 1027 = .ok (.aload_n 3, 1) := by decide +kernel
theorem dL_law_1028 : decode cL_law 1028 = .ok (.iconst 0, 1) := by decide +kernel
theorem dL_law_1029 : decode cL_law 1029 = .ok (.laload, 1) := by decide +kernel
theorem dL_law_1030 : decode cL_law 1030 = .ok (.iload 6, 2) := by decide +kernel
theorem dL_law_1032 : decode cL_law 1032 = .ok (.i2l, 1) := by decide +kernel
theorem dL_law_1033 : decode cL_law 1033 = .ok (.lcmp, 1) := by decide +kernel
theorem dL_law_1034 : decode cL_law 1034 = .ok (.ifCond .eq 5, 3) := by decide +kernel
theorem dL_law_1037 : decode cL_law 1037 = .ok (.iconst 0, 1) := by decide +kernel
theorem dL_law_1038 : decode cL_law 1038 = .ok (.ireturn, 1) := by decide +kernel
theorem dL_law_1039 : decode cL_law 1039 = .ok (.goto 603, 3) := by decide +kernel
theorem dL_law_1042 : decode cL_law 1042 = .ok (.aload_n 1, 1) := by decide +kernel
theorem dL_law_1043 : decode cL_law 1043 = .ok (.aload_n 0, 1) := by decide +kernel
theorem dL_law_1044 : decode cL_law 1044 = .ok (.iload 4, 2) := by decide +kernel
theorem dL_law_1046 : decode cL_law 1046 = .ok (.iconst 1, 1) := by decide +kernel
theorem dL_law_1047 : decode cL_law 1047 = .ok (.iadd, 1) := by decide +kernel
theorem dL_law_1048 : decode cL_law 1048 = .ok (.iaload, 1) := by decide +kernel
theorem dL_law_1049 : decode cL_law 1049 = .ok (.aload_n 0, 1) := by decide +kernel
theorem dL_law_1050 : decode cL_law 1050 = .ok (.iload 4, 2) := by decide +kernel
theorem dL_law_1052 : decode cL_law 1052 = .ok (.iconst 2, 1) := by decide +kernel
theorem dL_law_1053 : decode cL_law 1053 = .ok (.iadd, 1) := by decide +kernel
theorem dL_law_1054 : decode cL_law 1054 = .ok (.iaload, 1) := by decide +kernel
theorem dL_law_1055 : decode cL_law 1055 = .ok (.aload_n 3, 1) := by decide +kernel
theorem dL_law_1056 : decode cL_law 1056 = .ok (.invokestatic 144, 3) := by decide +kernel
theorem dL_law_1059 : decode cL_law 1059 = .ok (.istore 5, 2) := by decide +kernel
theorem dL_law_1061 : decode cL_law 1061 = .ok (.aload_n 2, 1) := by decide +kernel
theorem dL_law_1062 : decode cL_law 1062 = .ok (.aload_n 0, 1) := by decide +kernel
theorem dL_law_1063 : decode cL_law 1063 = .ok (.iload 4, 2) := by decide +kernel
theorem dL_law_1065 : decode cL_law 1065 = .ok (.iconst 1, 1) := by decide +kernel
theorem dL_law_1066 : decode cL_law 1066 = .ok (.iadd, 1) := by decide +kernel
theorem dL_law_1067 : decode cL_law 1067 = .ok (.iaload, 1) := by decide +kernel
theorem dL_law_1068 : decode cL_law 1068 = .ok (.aload_n 0, 1) := by decide +kernel
theorem dL_law_1069 : decode cL_law 1069 = .ok (.iload 4, 2) := by decide +kernel
theorem dL_law_1071 : decode cL_law 1071 = .ok (.iconst 2, 1) := by decide +kernel
theorem dL_law_1072 : decode cL_law 1072 = .ok (.iadd, 1) := by decide +kernel
theorem dL_law_1073 : decode cL_law 1073 = .ok (.iaload, 1) := by decide +kernel
theorem dL_law_1074 : decode cL_law 1074 = .ok (.invokevirtual 146, 3) := by decide +kernel
theorem dL_law_1077 : decode cL_law 1077 = .ok (.istore 6, 2) := by decide +kernel
theorem dL_law_1079 : decode cL_law 1079 = .ok (.aload_n 2, 1) := by decide +kernel
theorem dL_law_1080 : decode cL_law 1080 = .ok (.invokevirtual 93, 3) := by decide +kernel
theorem dL_law_1083 : decode cL_law 1083 = .ok (.iload 5, 2) := by decide +kernel
theorem dL_law_1085 : decode cL_law 1085 = .ok (.if_icmp .eq 5, 3) := by decide +kernel
theorem dL_law_1088 : decode cL_law 1088 = .ok (.iconst 0, 1) := by decide +kernel
theorem dL_law_1089 : decode cL_law 1089 = .ok (.ireturn, 1) := by decide +kernel
theorem dL_law_1090 : decode cL_law 1090 = .ok (.iload 5, 2) := by decide +kernel
theorem dL_law_1092 : decode cL_law 1092 = .ok (.ifCond .ne 15, 3) := by decide +kernel
theorem dL_law_1095 : decode cL_law 1095 = .ok (.aload_n 3, 1) := by decide +kernel
theorem dL_law_1096 : decode cL_law 1096 = .ok (.iconst 0, 1) := by decide +kernel
theorem dL_law_1097 : decode cL_law 1097 = .ok (.laload, 1) := by decide +kernel
theorem dL_law_1098 : decode cL_law 1098 = .ok (.iload 6, 2) := by decide +kernel
theorem dL_law_1100 : decode cL_law 1100 = .ok (.i2l, 1) := by decide +kernel
theorem dL_law_1101 : decode cL_law 1101 = .ok (.lcmp, 1) := by decide +kernel
theorem dL_law_1102 : decode cL_law 1102 = .ok (.ifCond .eq 5, 3) := by decide +kernel
theorem dL_law_1105 : decode cL_law 1105 = .ok (.iconst 0, 1) := by decide +kernel
theorem dL_law_1106 : decode cL_law 1106 = .ok (.ireturn, 1) := by decide +kernel
theorem dL_law_1107 : decode cL_law 1107 = .ok (.goto 535, 3) := by decide +kernel
theorem dL_law_1110 : decode cL_law 1110 = .ok (.aload_n 1, 1) := by decide +kernel
theorem dL_law_1111 : decode cL_law 1111 = .ok (.aload_n 0, 1) := by decide +kernel
theorem dL_law_1112 : decode cL_law 1112 = .ok (.iload 4, 2) := by decide +kernel
theorem dL_law_1114 : decode cL_law 1114 = .ok (.iconst 1, 1) := by decide +kernel
theorem dL_law_1115 : decode cL_law 1115 = .ok (.iadd, 1) := by decide +kernel
theorem dL_law_1116 : decode cL_law 1116 = .ok (.iaload, 1) := by decide +kernel
theorem dL_law_1117 : decode cL_law 1117 = .ok (.aload_n 3, 1) := by decide +kernel
theorem dL_law_1118 : decode cL_law 1118 = .ok (.invokestatic 147, 3) := by decide +kernel
theorem dL_law_1121 : decode cL_law 1121 = .ok (.istore 5, 2) := by decide +kernel
theorem dL_law_1123 : decode cL_law 1123 = .ok (.aload_n 2, 1) := by decide +kernel
theorem dL_law_1124 : decode cL_law 1124 = .ok (.aload_n 0, 1) := by decide +kernel
theorem dL_law_1125 : decode cL_law 1125 = .ok (.iload 4, 2) := by decide +kernel
theorem dL_law_1127 : decode cL_law 1127 = .ok (.iconst 1, 1) := by decide +kernel
theorem dL_law_1128 : decode cL_law 1128 = .ok (.iadd, 1) := by decide +kernel
theorem dL_law_1129 : decode cL_law 1129 = .ok (.iaload, 1) := by decide +kernel
theorem dL_law_1130 : decode cL_law 1130 = .ok (.invokevirtual 149, 3) := by decide +kernel
theorem dL_law_1133 : decode cL_law 1133 = .ok (.istore 6, 2) := by decide +kernel
theorem dL_law_1135 : decode cL_law 1135 = .ok (.aload_n 2, 1) := by decide +kernel
theorem dL_law_1136 : decode cL_law 1136 = .ok (.invokevirtual 93, 3) := by decide +kernel
theorem dL_law_1139 : decode cL_law 1139 = .ok (.iload 5, 2) := by decide +kernel
theorem dL_law_1141 : decode cL_law 1141 = .ok (.if_icmp .eq 5, 3) := by decide +kernel
theorem dL_law_1144 : decode cL_law 1144 = .ok (.iconst 0, 1) := by decide +kernel
theorem dL_law_1145 : decode cL_law 1145 = .ok (.ireturn, 1) := by decide +kernel
theorem dL_law_1146 : decode cL_law 1146 = .ok (.iload 5, 2) := by decide +kernel
theorem dL_law_1148 : decode cL_law 1148 = .ok (.ifCond .ne 15, 3) := by decide +kernel
theorem dL_law_1151 : decode cL_law 1151 = .ok (.aload_n 3, 1) := by decide +kernel
theorem dL_law_1152 : decode cL_law 1152 = .ok (.iconst 0, 1) := by decide +kernel
theorem dL_law_1153 : decode cL_law 1153 = .ok (.laload, 1) := by decide +kernel
theorem dL_law_1154 : decode cL_law 1154 = .ok (.iload 6, 2) := by decide +kernel
theorem dL_law_1156 : decode cL_law 1156 = .ok (.i2l, 1) := by decide +kernel
theorem dL_law_1157 : decode cL_law 1157 = .ok (.lcmp, 1) := by decide +kernel
theorem dL_law_1158 : decode cL_law 1158 = .ok (.ifCond .eq 5, 3) := by decide +kernel
theorem dL_law_1161 : decode cL_law 1161 = .ok (.iconst 0, 1) := by decide +kernel
theorem dL_law_1162 : decode cL_law 1162 = .ok (.ireturn, 1) := by decide +kernel
theorem dL_law_1163 : decode cL_law 1163 = .ok (.goto 479, 3) := by decide +kernel
theorem dL_law_1166 : decode cL_law 1166 = .ok (.aload_n 1, 1) := by decide +kernel
theorem dL_law_1167 : decode cL_law 1167 = .ok (.aload_n 0, 1) := by decide +kernel
theorem dL_law_1168 : decode cL_law 1168 = .ok (.iload 4, 2) := by decide +kernel
theorem dL_law_1170 : decode cL_law 1170 = .ok (.iconst 1, 1) := by decide +kernel
theorem dL_law_1171 : decode cL_law 1171 = .ok (.iadd, 1) := by decide +kernel
theorem dL_law_1172 : decode cL_law 1172 = .ok (.iaload, 1) := by decide +kernel
theorem dL_law_1173 : decode cL_law 1173 = .ok (.aload_n 3, 1) := by decide +kernel
theorem dL_law_1174 : decode cL_law 1174 = .ok (.invokestatic 150, 3) := by decide +kernel
theorem dL_law_1177 : decode cL_law 1177 = .ok (.istore 5, 2) := by decide +kernel
theorem dL_law_1179 : decode cL_law 1179 = .ok (.aload_n 2, 1) := by decide +kernel
theorem dL_law_1180 : decode cL_law 1180 = .ok (.aload_n 0, 1) := by decide +kernel
theorem dL_law_1181 : decode cL_law 1181 = .ok (.iload 4, 2) := by decide +kernel
theorem dL_law_1183 : decode cL_law 1183 = .ok (.iconst 1, 1) := by decide +kernel
theorem dL_law_1184 : decode cL_law 1184 = .ok (.iadd, 1) := by decide +kernel
theorem dL_law_1185 : decode cL_law 1185 = .ok (.iaload, 1) := by decide +kernel
theorem dL_law_1186 : decode cL_law 1186 = .ok (.invokevirtual 152, 3) := by decide +kernel
theorem dL_law_1189 : decode cL_law 1189 = .ok (.istore 6, 2) := by decide +kernel
theorem dL_law_1191 : decode cL_law 1191 = .ok (.aload_n 2, 1) := by decide +kernel
theorem dL_law_1192 : decode cL_law 1192 = .ok (.invokevirtual 93, 3) := by decide +kernel
theorem dL_law_1195 : decode cL_law 1195 = .ok (.iload 5, 2) := by decide +kernel
theorem dL_law_1197 : decode cL_law 1197 = .ok (.if_icmp .eq 5, 3) := by decide +kernel
theorem dL_law_1200 : decode cL_law 1200 = .ok (.iconst 0, 1) := by decide +kernel
theorem dL_law_1201 : decode cL_law 1201 = .ok (.ireturn, 1) := by decide +kernel
theorem dL_law_1202 : decode cL_law 1202 = .ok (.iload 5, 2) := by decide +kernel
theorem dL_law_1204 : decode cL_law 1204 = .ok (.ifCond .ne 15, 3) := by decide +kernel
theorem dL_law_1207 : decode cL_law 1207 = .ok (.aload_n 3, 1) := by decide +kernel
theorem dL_law_1208 : decode cL_law 1208 = .ok (.iconst 0, 1) := by decide +kernel
theorem dL_law_1209 : decode cL_law 1209 = .ok (.laload, 1) := by decide +kernel
theorem dL_law_1210 : decode cL_law 1210 = .ok (.iload 6, 2) := by decide +kernel
theorem dL_law_1212 : decode cL_law 1212 = .ok (.i2l, 1) := by decide +kernel
theorem dL_law_1213 : decode cL_law 1213 = .ok (.lcmp, 1) := by decide +kernel
theorem dL_law_1214 : decode cL_law 1214 = .ok (.ifCond .eq 5, 3) := by decide +kernel
theorem dL_law_1217 : decode cL_law 1217 = .ok (.iconst 0, 1) := by decide +kernel
theorem dL_law_1218 : decode cL_law 1218 = .ok (.ireturn, 1) := by decide +kernel
theorem dL_law_1219 : decode cL_law 1219 = .ok (.goto 423, 3) := by decide +kernel
theorem dL_law_1222 : decode cL_law 1222 = .ok (.aload_n 1, 1) := by decide +kernel
theorem dL_law_1223 : decode cL_law 1223 = .ok (.aload_n 0, 1) := by decide +kernel
theorem dL_law_1224 : decode cL_law 1224 = .ok (.iload 4, 2) := by decide +kernel
theorem dL_law_1226 : decode cL_law 1226 = .ok (.iconst 1, 1) := by decide +kernel
theorem dL_law_1227 : decode cL_law 1227 = .ok (.iadd, 1) := by decide +kernel
theorem dL_law_1228 : decode cL_law 1228 = .ok (.iaload, 1) := by decide +kernel
theorem dL_law_1229 : decode cL_law 1229 = .ok (.aload_n 0, 1) := by decide +kernel
theorem dL_law_1230 : decode cL_law 1230 = .ok (.iload 4, 2) := by decide +kernel
theorem dL_law_1232 : decode cL_law 1232 = .ok (.iconst 2, 1) := by decide +kernel
theorem dL_law_1233 : decode cL_law 1233 = .ok (.iadd, 1) := by decide +kernel
theorem dL_law_1234 : decode cL_law 1234 = .ok (.iaload, 1) := by decide +kernel
theorem dL_law_1235 : decode cL_law 1235 = .ok (.aload_n 0, 1) := by decide +kernel
theorem dL_law_1236 : decode cL_law 1236 = .ok (.iload 4, 2) := by decide +kernel
theorem dL_law_1238 : decode cL_law 1238 = .ok (.iconst 3, 1) := by decide +kernel
theorem dL_law_1239 : decode cL_law 1239 = .ok (.iadd, 1) := by decide +kernel
theorem dL_law_1240 : decode cL_law 1240 = .ok (.iaload, 1) := by decide +kernel
theorem dL_law_1241 : decode cL_law 1241 = .ok (.aload_n 0, 1) := by decide +kernel
theorem dL_law_1242 : decode cL_law 1242 = .ok (.iload 4, 2) := by decide +kernel
theorem dL_law_1244 : decode cL_law 1244 = .ok (.iconst 4, 1) := by decide +kernel
theorem dL_law_1245 : decode cL_law 1245 = .ok (.iadd, 1) := by decide +kernel
theorem dL_law_1246 : decode cL_law 1246 = .ok (.iaload, 1) := by decide +kernel
theorem dL_law_1247 : decode cL_law 1247 = .ok (.aload_n 3, 1) := by decide +kernel
theorem dL_law_1248 : decode cL_law 1248 = .ok (.invokestatic 153, 3) := by decide +kernel
theorem dL_law_1251 : decode cL_law 1251 = .ok (.istore 5, 2) := by decide +kernel
theorem dL_law_1253 : decode cL_law 1253 = .ok (.aload_n 2, 1) := by decide +kernel
theorem dL_law_1254 : decode cL_law 1254 = .ok (.aload_n 0, 1) := by decide +kernel
theorem dL_law_1255 : decode cL_law 1255 = .ok (.iload 4, 2) := by decide +kernel
theorem dL_law_1257 : decode cL_law 1257 = .ok (.iconst 1, 1) := by decide +kernel
theorem dL_law_1258 : decode cL_law 1258 = .ok (.iadd, 1) := by decide +kernel
theorem dL_law_1259 : decode cL_law 1259 = .ok (.iaload, 1) := by decide +kernel
theorem dL_law_1260 : decode cL_law 1260 = .ok (.aload_n 0, 1) := by decide +kernel
theorem dL_law_1261 : decode cL_law 1261 = .ok (.iload 4, 2) := by decide +kernel
theorem dL_law_1263 : decode cL_law 1263 = .ok (.iconst 2, 1) := by decide +kernel
theorem dL_law_1264 : decode cL_law 1264 = .ok (.iadd, 1) := by decide +kernel
theorem dL_law_1265 : decode cL_law 1265 = .ok (.iaload, 1) := by decide +kernel
theorem dL_law_1266 : decode cL_law 1266 = .ok (.aload_n 0, 1) := by decide +kernel
theorem dL_law_1267 : decode cL_law 1267 = .ok (.iload 4, 2) := by decide +kernel
theorem dL_law_1269 : decode cL_law 1269 = .ok (.iconst 3, 1) := by decide +kernel
theorem dL_law_1270 : decode cL_law 1270 = .ok (.iadd, 1) := by decide +kernel
theorem dL_law_1271 : decode cL_law 1271 = .ok (.iaload, 1) := by decide +kernel
theorem dL_law_1272 : decode cL_law 1272 = .ok (.aload_n 0, 1) := by decide +kernel
theorem dL_law_1273 : decode cL_law 1273 = .ok (.iload 4, 2) := by decide +kernel
theorem dL_law_1275 : decode cL_law 1275 = .ok (.iconst 4, 1) := by decide +kernel
theorem dL_law_1276 : decode cL_law 1276 = .ok (.iadd, 1) := by decide +kernel
theorem dL_law_1277 : decode cL_law 1277 = .ok (.iaload, 1) := by decide +kernel
theorem dL_law_1278 : decode cL_law 1278 = .ok (.invokevirtual 155, 3) := by decide +kernel
theorem dL_law_1281 : decode cL_law 1281 = .ok (.istore 6, 2) := by decide +kernel
theorem dL_law_1283 : decode cL_law 1283 = .ok (.aload_n 2, 1) := by decide +kernel
theorem dL_law_1284 : decode cL_law 1284 = .ok (.invokevirtual 93, 3) := by decide +kernel
theorem dL_law_1287 : decode cL_law 1287 = .ok (.iload 5, 2) := by decide +kernel
theorem dL_law_1289 : decode cL_law 1289 = .ok (.if_icmp .eq 5, 3) := by decide +kernel
theorem dL_law_1292 : decode cL_law 1292 = .ok (.iconst 0, 1) := by decide +kernel
theorem dL_law_1293 : decode cL_law 1293 = .ok (.ireturn, 1) := by decide +kernel
theorem dL_law_1294 : decode cL_law 1294 = .ok (.iload 5, 2) := by decide +kernel
theorem dL_law_1296 : decode cL_law 1296 = .ok (.ifCond .ne 15, 3) := by decide +kernel
theorem dL_law_1299 : decode cL_law 1299 = .ok (.aload_n 3, 1) := by decide +kernel
theorem dL_law_1300 : decode cL_law 1300 = .ok (.iconst 0, 1) := by decide +kernel
theorem dL_law_1301 : decode cL_law 1301 = .ok (.laload, 1) := by decide +kernel
theorem dL_law_1302 : decode cL_law 1302 = .ok (.iload 6, 2) := by decide +kernel
theorem dL_law_1304 : decode cL_law 1304 = .ok (.i2l, 1) := by decide +kernel
theorem dL_law_1305 : decode cL_law 1305 = .ok (.lcmp, 1) := by decide +kernel
theorem dL_law_1306 : decode cL_law 1306 = .ok (.ifCond .eq 5, 3) := by decide +kernel
theorem dL_law_1309 : decode cL_law 1309 = .ok (.iconst 0, 1) := by decide +kernel
theorem dL_law_1310 : decode cL_law 1310 = .ok (.ireturn, 1) := by decide +kernel
theorem dL_law_1311 : decode cL_law 1311 = .ok (.goto 331, 3) := by decide +kernel
theorem dL_law_1314 : decode cL_law 1314 = .ok (.aload_n 1, 1) := by decide +kernel
theorem dL_law_1315 : decode cL_law 1315 = .ok (.aload_n 0, 1) := by decide +kernel
theorem dL_law_1316 : decode cL_law 1316 = .ok (.iload 4, 2) := by decide +kernel
theorem dL_law_1318 : decode cL_law 1318 = .ok (.iconst 1, 1) := by decide +kernel
theorem dL_law_1319 : decode cL_law 1319 = .ok (.iadd, 1) := by decide +kernel
theorem dL_law_1320 : decode cL_law 1320 = .ok (.iaload, 1) := by decide +kernel
theorem dL_law_1321 : decode cL_law 1321 = .ok (.aload_n 0, 1) := by decide +kernel
theorem dL_law_1322 : decode cL_law 1322 = .ok (.iload 4, 2) := by decide +kernel
theorem dL_law_1324 : decode cL_law 1324 = .ok (.iconst 2, 1) := by decide +kernel
theorem dL_law_1325 : decode cL_law 1325 = .ok (.iadd, 1) := by decide +kernel
theorem dL_law_1326 : decode cL_law 1326 = .ok (.iaload, 1) := by decide +kernel
theorem dL_law_1327 : decode cL_law 1327 = .ok (.aload_n 3, 1) := by decide +kernel
theorem dL_law_1328 : decode cL_law 1328 = .ok (.invokestatic 156, 3) := by decide +kernel
theorem dL_law_1331 : decode cL_law 1331 = .ok (.istore 5, 2) := by decide +kernel
theorem dL_law_1333 : decode cL_law 1333 = .ok (.aload_n 2, 1) := by decide +kernel
theorem dL_law_1334 : decode cL_law 1334 = .ok (.aload_n 0, 1) := by decide +kernel
theorem dL_law_1335 : decode cL_law 1335 = .ok (.iload 4, 2) := by decide +kernel
theorem dL_law_1337 : decode cL_law 1337 = .ok (.iconst 1, 1) := by decide +kernel
theorem dL_law_1338 : decode cL_law 1338 = .ok (.iadd, 1) := by decide +kernel
theorem dL_law_1339 : decode cL_law 1339 = .ok (.iaload, 1) := by decide +kernel
theorem dL_law_1340 : decode cL_law 1340 = .ok (.aload_n 0, 1) := by decide +kernel
theorem dL_law_1341 : decode cL_law 1341 = .ok (.iload 4, 2) := by decide +kernel
theorem dL_law_1343 : decode cL_law 1343 = .ok (.iconst 2, 1) := by decide +kernel
theorem dL_law_1344 : decode cL_law 1344 = .ok (.iadd, 1) := by decide +kernel
theorem dL_law_1345 : decode cL_law 1345 = .ok (.iaload, 1) := by decide +kernel
theorem dL_law_1346 : decode cL_law 1346 = .ok (.invokevirtual 158, 3) := by decide +kernel
theorem dL_law_1349 : decode cL_law 1349 = .ok (.istore 6, 2) := by decide +kernel
theorem dL_law_1351 : decode cL_law 1351 = .ok (.aload_n 2, 1) := by decide +kernel
theorem dL_law_1352 : decode cL_law 1352 = .ok (.invokevirtual 93, 3) := by decide +kernel
theorem dL_law_1355 : decode cL_law 1355 = .ok (.iload 5, 2) := by decide +kernel
theorem dL_law_1357 : decode cL_law 1357 = .ok (.if_icmp .eq 5, 3) := by decide +kernel
theorem dL_law_1360 : decode cL_law 1360 = .ok (.iconst 0, 1) := by decide +kernel
theorem dL_law_1361 : decode cL_law 1361 = .ok (.ireturn, 1) := by decide +kernel
theorem dL_law_1362 : decode cL_law 1362 = .ok (.iload 5, 2) := by decide +kernel
theorem dL_law_1364 : decode cL_law 1364 = .ok (.ifCond .ne 15, 3) := by decide +kernel
theorem dL_law_1367 : decode cL_law 1367 = .ok (.aload_n 3, 1) := by decide +kernel
theorem dL_law_1368 : decode cL_law 1368 = .ok (.iconst 0, 1) := by decide +kernel
theorem dL_law_1369 : decode cL_law 1369 = .ok (.laload, 1) := by decide +kernel
theorem dL_law_1370 : decode cL_law 1370 = .ok (.iload 6, 2) := by decide +kernel
theorem dL_law_1372 : decode cL_law 1372 = .ok (.i2l, 1) := by decide +kernel
theorem dL_law_1373 : decode cL_law 1373 = .ok (.lcmp, 1) := by decide +kernel
theorem dL_law_1374 : decode cL_law 1374 = .ok (.ifCond .eq 5, 3) := by decide +kernel
theorem dL_law_1377 : decode cL_law 1377 = .ok (.iconst 0, 1) := by decide +kernel
theorem dL_law_1378 : decode cL_law 1378 = .ok (.ireturn, 1) := by decide +kernel
theorem dL_law_1379 : decode cL_law 1379 = .ok (.goto 263, 3) := by decide +kernel
theorem dL_law_1382 : decode cL_law 1382 = .ok (.aload_n 1, 1) := by decide +kernel
theorem dL_law_1383 : decode cL_law 1383 = .ok (.aload_n 0, 1) := by decide +kernel
theorem dL_law_1384 : decode cL_law 1384 = .ok (.iload 4, 2) := by decide +kernel
theorem dL_law_1386 : decode cL_law 1386 = .ok (.iconst 1, 1) := by decide +kernel
theorem dL_law_1387 : decode cL_law 1387 = .ok (.iadd, 1) := by decide +kernel
theorem dL_law_1388 : decode cL_law 1388 = .ok (.iaload, 1) := by decide +kernel
theorem dL_law_1389 : decode cL_law 1389 = .ok (.aload_n 0, 1) := by decide +kernel
theorem dL_law_1390 : decode cL_law 1390 = .ok (.iload 4, 2) := by decide +kernel
theorem dL_law_1392 : decode cL_law 1392 = .ok (.iconst 2, 1) := by decide +kernel
theorem dL_law_1393 : decode cL_law 1393 = .ok (.iadd, 1) := by decide +kernel
theorem dL_law_1394 : decode cL_law 1394 = .ok (.iaload, 1) := by decide +kernel
theorem dL_law_1395 : decode cL_law 1395 = .ok (.aload_n 3, 1) := by decide +kernel
theorem dL_law_1396 : decode cL_law 1396 = .ok (.invokestatic 159, 3) := by decide +kernel
theorem dL_law_1399 : decode cL_law 1399 = .ok (.istore 5, 2) := by decide +kernel
theorem dL_law_1401 : decode cL_law 1401 = .ok (.aload_n 2, 1) := by decide +kernel
theorem dL_law_1402 : decode cL_law 1402 = .ok (.aload_n 0, 1) := by decide +kernel
theorem dL_law_1403 : decode cL_law 1403 = .ok (.iload 4, 2) := by decide +kernel
theorem dL_law_1405 : decode cL_law 1405 = .ok (.iconst 1, 1) := by decide +kernel
theorem dL_law_1406 : decode cL_law 1406 = .ok (.iadd, 1) := by decide +kernel
theorem dL_law_1407 : decode cL_law 1407 = .ok (.iaload, 1) := by decide +kernel
theorem dL_law_1408 : decode cL_law 1408 = .ok (.aload_n 0, 1) := by decide +kernel
theorem dL_law_1409 : decode cL_law 1409 = .ok (.iload 4, 2) := by decide +kernel
theorem dL_law_1411 : decode cL_law 1411 = .ok (.iconst 2, 1) := by decide +kernel
theorem dL_law_1412 : decode cL_law 1412 = .ok (.iadd, 1) := by decide +kernel
theorem dL_law_1413 : decode cL_law 1413 = .ok (.iaload, 1) := by decide +kernel
theorem dL_law_1414 : decode cL_law 1414 = .ok (.invokevirtual 161, 3) := by decide +kernel
theorem dL_law_1417 : decode cL_law 1417 = .ok (.istore 6, 2) := by decide +kernel
theorem dL_law_1419 : decode cL_law 1419 = .ok (.aload_n 2, 1) := by decide +kernel
theorem dL_law_1420 : decode cL_law 1420 = .ok (.invokevirtual 93, 3) := by decide +kernel
theorem dL_law_1423 : decode cL_law 1423 = .ok (.iload 5, 2) := by decide +kernel
theorem dL_law_1425 : decode cL_law 1425 = .ok (.if_icmp .eq 5, 3) := by decide +kernel
theorem dL_law_1428 : decode cL_law 1428 = .ok (.iconst 0, 1) := by decide +kernel
theorem dL_law_1429 : decode cL_law 1429 = .ok (.ireturn, 1) := by decide +kernel
theorem dL_law_1430 : decode cL_law 1430 = .ok (.iload 5, 2) := by decide +kernel
theorem dL_law_1432 : decode cL_law 1432 = .ok (.ifCond .ne 15, 3) := by decide +kernel
theorem dL_law_1435 : decode cL_law 1435 = .ok (.aload_n 3, 1) := by decide +kernel
theorem dL_law_1436 : decode cL_law 1436 = .ok (.iconst 0, 1) := by decide +kernel
theorem dL_law_1437 : decode cL_law 1437 = .ok (.laload, 1) := by decide +kernel
theorem dL_law_1438 : decode cL_law 1438 = .ok (.iload 6, 2) := by decide +kernel
theorem dL_law_1440 : decode cL_law 1440 = .ok (.i2l, 1) := by decide +kernel
theorem dL_law_1441 : decode cL_law 1441 = .ok (.lcmp, 1) := by decide +kernel
theorem dL_law_1442 : decode cL_law 1442 = .ok (.ifCond .eq 5, 3) := by decide +kernel
theorem dL_law_1445 : decode cL_law 1445 = .ok (.iconst 0, 1) := by decide +kernel
theorem dL_law_1446 : decode cL_law 1446 = .ok (.ireturn, 1) := by decide +kernel
theorem dL_law_1447 : decode cL_law 1447 = .ok (.goto 195, 3) := by decide +kernel
theorem dL_law_1450 : decode cL_law 1450 = .ok (.aload_n 1, 1) := by decide +kernel
theorem dL_law_1451 : decode cL_law 1451 = .ok (.aload_n 0, 1) := by decide +kernel
theorem dL_law_1452 : decode cL_law 1452 = .ok (.iload 4, 2) := by decide +kernel
theorem dL_law_1454 : decode cL_law 1454 = .ok (.iconst 1, 1) := by decide +kernel
theorem dL_law_1455 : decode cL_law 1455 = .ok (.iadd, 1) := by decide +kernel
theorem dL_law_1456 : decode cL_law 1456 = .ok (.iaload, 1) := by decide +kernel
theorem dL_law_1457 : decode cL_law 1457 = .ok (.aload_n 0, 1) := by decide +kernel
theorem dL_law_1458 : decode cL_law 1458 = .ok (.iload 4, 2) := by decide +kernel
theorem dL_law_1460 : decode cL_law 1460 = .ok (.iconst 2, 1) := by decide +kernel
theorem dL_law_1461 : decode cL_law 1461 = .ok (.iadd, 1) := by decide +kernel
theorem dL_law_1462 : decode cL_law 1462 = .ok (.iaload, 1) := by decide +kernel
theorem dL_law_1463 : decode cL_law 1463 = .ok (.aload_n 3, 1) := by decide +kernel
theorem dL_law_1464 : decode cL_law 1464 = .ok (.invokestatic 162, 3) := by decide +kernel
theorem dL_law_1467 : decode cL_law 1467 = .ok (.istore 5, 2) := by decide +kernel
theorem dL_law_1469 : decode cL_law 1469 = .ok (.aload_n 2, 1) := by decide +kernel
theorem dL_law_1470 : decode cL_law 1470 = .ok (.aload_n 0, 1) := by decide +kernel
theorem dL_law_1471 : decode cL_law 1471 = .ok (.iload 4, 2) := by decide +kernel
theorem dL_law_1473 : decode cL_law 1473 = .ok (.iconst 1, 1) := by decide +kernel
theorem dL_law_1474 : decode cL_law 1474 = .ok (.iadd, 1) := by decide +kernel
theorem dL_law_1475 : decode cL_law 1475 = .ok (.iaload, 1) := by decide +kernel
theorem dL_law_1476 : decode cL_law 1476 = .ok (.aload_n 0, 1) := by decide +kernel
theorem dL_law_1477 : decode cL_law 1477 = .ok (.iload 4, 2) := by decide +kernel
theorem dL_law_1479 : decode cL_law 1479 = .ok (.iconst 2, 1) := by decide +kernel
theorem dL_law_1480 : decode cL_law 1480 = .ok (.iadd, 1) := by decide +kernel
theorem dL_law_1481 : decode cL_law 1481 = .ok (.iaload, 1) := by decide +kernel
theorem dL_law_1482 : decode cL_law 1482 = .ok (.invokevirtual 164, 3) := by decide +kernel
theorem dL_law_1485 : decode cL_law 1485 = .ok (.istore 6, 2) := by decide +kernel
theorem dL_law_1487 : decode cL_law 1487 = .ok (.aload_n 2, 1) := by decide +kernel
theorem dL_law_1488 : decode cL_law 1488 = .ok (.invokevirtual 93, 3) := by decide +kernel
theorem dL_law_1491 : decode cL_law 1491 = .ok (.iload 5, 2) := by decide +kernel
theorem dL_law_1493 : decode cL_law 1493 = .ok (.if_icmp .eq 5, 3) := by decide +kernel
theorem dL_law_1496 : decode cL_law 1496 = .ok (.iconst 0, 1) := by decide +kernel
theorem dL_law_1497 : decode cL_law 1497 = .ok (.ireturn, 1) := by decide +kernel
theorem dL_law_1498 : decode cL_law 1498 = .ok (.iload 5, 2) := by decide +kernel
theorem dL_law_1500 : decode cL_law 1500 = .ok (.ifCond .ne 15, 3) := by decide +kernel
theorem dL_law_1503 : decode cL_law 1503 = .ok (.aload_n 3, 1) := by decide +kernel
theorem dL_law_1504 : decode cL_law 1504 = .ok (.iconst 0, 1) := by decide +kernel
theorem dL_law_1505 : decode cL_law 1505 = .ok (.laload, 1) := by decide +kernel
theorem dL_law_1506 : decode cL_law 1506 = .ok (.iload 6, 2) := by decide +kernel
theorem dL_law_1508 : decode cL_law 1508 = .ok (.i2l, 1) := by decide +kernel
theorem dL_law_1509 : decode cL_law 1509 = .ok (.lcmp, 1) := by decide +kernel
theorem dL_law_1510 : decode cL_law 1510 = .ok (.ifCond .eq 5, 3) := by decide +kernel
theorem dL_law_1513 : decode cL_law 1513 = .ok (.iconst 0, 1) := by decide +kernel
theorem dL_law_1514 : decode cL_law 1514 = .ok (.ireturn, 1) := by decide +kernel
theorem dL_law_1515 : decode cL_law 1515 = .ok (.goto 127, 3) := by decide +kernel
theorem dL_law_1518 : decode cL_law 1518 = .ok (.aload_n 1, 1) := by decide +kernel
theorem dL_law_1519 : decode cL_law 1519 = .ok (.invokevirtual 165, 3) := by decide +kernel
theorem dL_law_1522 : decode cL_law 1522 = .ok (.aload_n 2, 1) := by decide +kernel
theorem dL_law_1523 : decode cL_law 1523 = .ok (.invokevirtual 168, 3) := by decide +kernel
theorem dL_law_1526 : decode cL_law 1526 = .ok (.if_icmp .eq 116, 3) := by decide +kernel
theorem dL_law_1529 : decode cL_law 1529 = .ok (.iconst 0, 1) := by decide +kernel
theorem dL_law_1530 : decode cL_law 1530 = .ok (.ireturn, 1) := by decide +kernel
theorem dL_law_1531 : decode cL_law 1531 = .ok (.aload_n 1, 1) := by decide +kernel
theorem dL_law_1532 : decode cL_law 1532 = .ok (.aload_n 0, 1) := by decide +kernel
theorem dL_law_1533 : decode cL_law 1533 = .ok (.iload 4, 2) := by decide +kernel
theorem dL_law_1535 : decode cL_law 1535 = .ok (.iconst 1, 1) := by decide +kernel
theorem dL_law_1536 : decode cL_law 1536 = .ok (.iadd, 1) := by decide +kernel
theorem dL_law_1537 : decode cL_law 1537 = .ok (.iaload, 1) := by decide +kernel
theorem dL_law_1538 : decode cL_law 1538 = .ok (.aload_n 3, 1) := by decide +kernel
theorem dL_law_1539 : decode cL_law 1539 = .ok (.invokestatic 169, 3) := by decide +kernel
theorem dL_law_1542 : decode cL_law 1542 = .ok (.istore 5, 2) := by decide +kernel
theorem dL_law_1544 : decode cL_law 1544 = .ok (.aload_n 2, 1) := by decide +kernel
theorem dL_law_1545 : decode cL_law 1545 = .ok (.aload_n 0, 1) := by decide +kernel
theorem dL_law_1546 : decode cL_law 1546 = .ok (.iload 4, 2) := by decide +kernel
theorem dL_law_1548 : decode cL_law 1548 = .ok (.iconst 1, 1) := by decide +kernel
theorem dL_law_1549 : decode cL_law 1549 = .ok (.iadd, 1) := by decide +kernel
theorem dL_law_1550 : decode cL_law 1550 = .ok (.iaload, 1) := by decide +kernel
theorem dL_law_1551 : decode cL_law 1551 = .ok (.invokevirtual 171, 3) := by decide +kernel
theorem dL_law_1554 : decode cL_law 1554 = .ok (.istore 6, 2) := by decide +kernel
theorem dL_law_1556 : decode cL_law 1556 = .ok (.aload_n 2, 1) := by decide +kernel
theorem dL_law_1557 : decode cL_law 1557 = .ok (.invokevirtual 93, 3) := by decide +kernel
theorem dL_law_1560 : decode cL_law 1560 = .ok (.iload 5, 2) := by decide +kernel
theorem dL_law_1562 : decode cL_law 1562 = .ok (.if_icmp .eq 5, 3) := by decide +kernel
theorem dL_law_1565 : decode cL_law 1565 = .ok (.iconst 0, 1) := by decide +kernel
theorem dL_law_1566 : decode cL_law 1566 = .ok (.ireturn, 1) := by decide +kernel
theorem dL_law_1567 : decode cL_law 1567 = .ok (.iload 5, 2) := by decide +kernel
theorem dL_law_1569 : decode cL_law 1569 = .ok (.ifCond .ne 15, 3) := by decide +kernel
theorem dL_law_1572 : decode cL_law 1572 = .ok (.aload_n 3, 1) := by decide +kernel
theorem dL_law_1573 : decode cL_law 1573 = .ok (.iconst 0, 1) := by decide +kernel
theorem dL_law_1574 : decode cL_law 1574 = .ok (.laload, 1) := by decide +kernel
theorem dL_law_1575 : decode cL_law 1575 = .ok (.iload 6, 2) := by decide +kernel
theorem dL_law_1577 : decode cL_law 1577 = .ok (.i2l, 1) := by decide +kernel
theorem dL_law_1578 : decode cL_law 1578 = .ok (.lcmp, 1) := by decide +kernel
theorem dL_law_1579 : decode cL_law 1579 = .ok (.ifCond .eq 5, 3) := by decide +kernel
theorem dL_law_1582 : decode cL_law 1582 = .ok (.iconst 0, 1) := by decide +kernel
theorem dL_law_1583 : decode cL_law 1583 = .ok (.ireturn, 1) := by decide +kernel
theorem dL_law_1584 : decode cL_law 1584 = .ok (.goto 58, 3) := by decide +kernel
theorem dL_law_1587 : decode cL_law 1587 = .ok (.aload_n 1, 1) := by decide +kernel
theorem dL_law_1588 : decode cL_law 1588 = .ok (.invokevirtual 172, 3) := by decide +kernel
theorem dL_law_1591 : decode cL_law 1591 = .ok (.dstore 5, 2) := by decide +kernel
theorem dL_law_1593 : decode cL_law 1593 = .ok (.aload_n 2, 1) := by decide +kernel
theorem dL_law_1594 : decode cL_law 1594 = .ok (.invokevirtual 176, 3) := by decide +kernel
theorem dL_law_1597 : decode cL_law 1597 = .ok (.dstore 7, 2) := by decide +kernel
theorem dL_law_1599 : decode cL_law 1599 = .ok (.dload 5, 2) := by decide +kernel
theorem dL_law_1601 : decode cL_law 1601 = .ok (.dload 7, 2) := by decide +kernel
theorem dL_law_1603 : decode cL_law 1603 = .ok (.dcmp .l, 1) := by decide +kernel
theorem dL_law_1604 : decode cL_law 1604 = .ok (.ifCond .eq 21, 3) := by decide +kernel
theorem dL_law_1607 : decode cL_law 1607 = .ok (.dload 5, 2) := by decide +kernel
theorem dL_law_1609 : decode cL_law 1609 = .ok (.dload 5, 2) := by decide +kernel
theorem dL_law_1611 : decode cL_law 1611 = .ok (.dcmp .l, 1) := by decide +kernel
theorem dL_law_1612 : decode cL_law 1612 = .ok (.ifCond .eq 11, 3) := by decide +kernel
theorem dL_law_1615 : decode cL_law 1615 = .ok (.dload 7, 2) := by decide +kernel
theorem dL_law_1617 : decode cL_law 1617 = .ok (.dload 7, 2) := by decide +kernel
theorem dL_law_1619 : decode cL_law 1619 = .ok (.dcmp .l, 1) := by decide +kernel
theorem dL_law_1620 : decode cL_law 1620 = .ok (.ifCond .ne 5, 3) := by decide +kernel
theorem dL_law_1623 : decode cL_law 1623 = .ok (.iconst 0, 1) := by decide +kernel
theorem dL_law_1624 : decode cL_law 1624 = .ok (.ireturn, 1) := by decide +kernel
theorem dL_law_1625 : decode cL_law 1625 = .ok (.goto 17, 3) := by decide +kernel
theorem dL_law_1628 : decode cL_law 1628 = .ok (.aload_n 1, 1) := by decide +kernel
theorem dL_law_1629 : decode cL_law 1629 = .ok (.invokevirtual 177, 3) := by decide +kernel
theorem dL_law_1632 : decode cL_law 1632 = .ok (.aload_n 2, 1) := by decide +kernel
theorem dL_law_1633 : decode cL_law 1633 = .ok (.invokevirtual 181, 3) := by decide +kernel
theorem dL_law_1636 : decode cL_law 1636 = .ok (.lcmp, 1) := by decide +kernel
theorem dL_law_1637 : decode cL_law 1637 = .ok (.ifCond .eq 5, 3) := by decide +kernel
theorem dL_law_1640 : decode cL_law 1640 = .ok (.iconst 0, 1) := by decide +kernel
theorem dL_law_1641 : decode cL_law 1641 = .ok (.ireturn, 1) := by decide +kernel
theorem dL_law_1642 : decode cL_law 1642 = .ok (.iinc 4 5, 3) := by decide +kernel
theorem dL_law_1645 : decode cL_law 1645 = .ok (.goto (-1622), 3) := by decide +kernel
theorem dL_law_1648 : decode cL_law 1648 = .ok (.iconst 1, 1) := by decide +kernel
theorem dL_law_1649 : decode cL_law 1649 = .ok (.ireturn, 1) := by decide +kernel
