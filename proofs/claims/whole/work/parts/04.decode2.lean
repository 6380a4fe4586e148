theorem dX7_swap_120 : decode cX7_swap 120 = .ok (.getfield 89, 3) := by decide +kernel
theorem dX7_swap_123 : decode cX7_swap 123 = .ok (.iload_n 1, 1) := by decide +kernel
theorem dX7_swap_124 : decode cX7_swap 124 = .ok (.iconst 1, 1) := by decide +kernel
theorem dX7_swap_125 : decode cX7_swap 125 = .ok (.invokevirtual 175, 3) := by decide +kernel
theorem dX7_swap_128 : decode cX7_swap 128 = .ok (.istore 5, 2) := by decide +kernel
theorem dX7_swap_130 : decode cX7_swap 130 = .ok (.iload_n 2, 1) := by decide +kernel
theorem dX7_swap_131 : decode cX7_swap 131 = .ok (.iconst 2, 1) := by decide +kernel
theorem dX7_swap_132 : decode cX7_swap 132 = .ok (.if_icmp .ne 7, 3) := by decide +kernel
theorem dX7_swap_135 : decode cX7_swap 135 = .ok (.iload_n 3, 1) := by decide +kernel
theorem dX7_swap_136 : decode cX7_swap 136 = .ok (.goto 15, 3) := by decide +kernel
theorem dX7_swap_139 : decode cX7_swap 139 = .ok (.aload_n 0, 1) := by decide +kernel
theorem dX7_swap_140 : decode cX7_swap 140 = .ok (.getfield 10, 3) := by decide +kernel
theorem dX7_swap_143 : decode cX7_swap 143 = .ok (.getfield 89, 3) := by decide +kernel
theorem dX7_swap_146 : decode cX7_swap 146 = .ok (.iload_n 1, 1) := by decide +kernel
theorem dX7_swap_147 : decode cX7_swap 147 = .ok (.iconst 2, 1) := by decide +kernel
theorem dX7_swap_148 : decode cX7_swap 148 = .ok (.invokevirtual 175, 3) := by decide +kernel
theorem dX7_swap_151 : decode cX7_swap 151 = .ok (.istore 6, 2) := by decide +kernel
theorem dX7_swap_153 : decode cX7_swap 153 = .ok (.aload_n 0, 1) := by decide +kernel
theorem dX7_swap_154 : decode cX7_swap 154 = .ok (.getfield 10, 3) := by decide +kernel
theorem dX7_swap_157 : decode cX7_swap 157 = .ok (.iload_n 1, 1) := by decide +kernel
theorem dX7_swap_158 : decode cX7_swap 158 = .ok (.iload 4, 2) := by decide +kernel
theorem dX7_swap_160 : decode cX7_swap 160 = .ok (.iload 5, 2) := by decide +kernel
theorem dX7_swap_162 : decode cX7_swap 162 = .ok (.iload 6, 2) := by decide +kernel
theorem dX7_swap_164 : decode cX7_swap 164 = .ok (.invokevirtual 144, 3) := by decide +kernel
theorem dX7_swap_167 : decode cX7_swap 167 = .ok (.ifCond .eq 13, 3) := by decide +kernel
theorem dX7_swap_170 : decode cX7_swap 170 = .ok (.new 74, 3) := by decide +kernel
theorem dX7_swap_173 : decode cX7_swap 173 = .ok (.dup, 1) := by decide +kernel
theorem dX7_swap_174 : decode cX7_swap 174 = .ok (.ldc 178, 2) := by decide +kernel
theorem dX7_swap_176 : decode cX7_swap 176 = .ok (.invokespecial 78, 3) := by decide +kernel
theorem dX7_swap_179 : decode cX7_swap 179 = .ok (.athrow, 1) := by decide +kernel
theorem dX7_swap_180 : decode cX7_swap 180 = .ok (.aload_n 0, 1) := by decide +kernel
theorem dX7_swap_181 : decode cX7_swap 181 = .ok (.getfield 22, 3) := by decide +kernel
theorem dX7_swap_184 : decode cX7_swap 184 = .ok (.aload_n 0, 1) := by decide +kernel
theorem dX7_swap_185 : decode cX7_swap 185 = .ok (.getfield 10, 3) := by decide +kernel
theorem dX7_swap_188 : decode cX7_swap 188 = .ok (.invokevirtual 79, 3) := by decide +kernel
theorem dX7_swap_191 : decode cX7_swap 191 = .ok (.aload_n 0, 1) := by decide +kernel
theorem dX7_swap_192 : decode cX7_swap 192 = .ok (.getfield 10, 3) := by decide +kernel
theorem dX7_swap_195 : decode cX7_swap 195 = .ok (.getfield 89, 3) := by decide +kernel
theorem dX7_swap_198 : decode cX7_swap 198 = .ok (.iload_n 1, 1) := by decide +kernel
theorem dX7_swap_199 : decode cX7_swap 199 = .ok (.iload_n 2, 1) := by decide +kernel
theorem dX7_swap_200 : decode cX7_swap 200 = .ok (.invokevirtual 175, 3) := by decide +kernel
theorem dX7_swap_203 : decode cX7_swap 203 = .ok (.istore 7, 2) := by decide +kernel
theorem dX7_swap_205 : decode cX7_swap 205 = .ok (.aload_n 0, 1) := by decide +kernel
theorem dX7_swap_206 : decode cX7_swap 206 = .ok (.getfield 10, 3) := by decide +kernel
theorem dX7_swap_209 : decode cX7_swap 209 = .ok (.getfield 89, 3) := by decide +kernel
theorem dX7_swap_212 : decode cX7_swap 212 = .ok (.iload_n 1, 1) := by decide +kernel
theorem dX7_swap_213 : decode cX7_swap 213 = .ok (.iload 4, 2) := by decide +kernel
theorem dX7_swap_215 : decode cX7_swap 215 = .ok (.iload 5, 2) := by decide +kernel
theorem dX7_swap_217 : decode cX7_swap 217 = .ok (.iload 6, 2) := by decide +kernel
theorem dX7_swap_219 : decode cX7_swap 219 = .ok (.invokevirtual 149, 3) := by decide +kernel
theorem dX7_swap_222 : decode cX7_swap 222 = .ok (.iload 7, 2) := by decide +kernel
theorem dX7_swap_224 : decode cX7_swap 224 = .ok (.ireturn, 1) := by decide +kernel
theorem dX7_vacate_0 : decode cX7_vacate 0 = .ok (.aload_n 0, 1) := by decide +kernel
theorem dX7_vacate_1 : decode cX7_vacate 1 = .ok (.getfield 10, 3) := by decide +kernel
theorem dX7_vacate_4 : decode cX7_vacate 4 = .ok (.getfield 89, 3) := by decide +kernel
theorem dX7_vacate_7 : decode cX7_vacate 7 = .ok (.iload_n 1, 1) := by decide +kernel
theorem dX7_vacate_8 : decode cX7_vacate 8 = .ok (.invokevirtual 133, 3) := by decide +kernel
theorem dX7_vacate_11 : decode cX7_vacate 11 = .ok (.ifCond .ne 13, 3) := by decide +kernel
theorem dX7_vacate_14 : decode cX7_vacate 14 = .ok (.new 109, 3) := by decide +kernel
theorem dX7_vacate_17 : decode cX7_vacate 17 = .ok (.dup, 1) := by decide +kernel
theorem dX7_vacate_18 : decode cX7_vacate 18 = .ok (.ldc 157, 2) := by decide +kernel
theorem dX7_vacate_20 : decode cX7_vacate 20 = .ok (.invokespecial 113, 3) := by decide +kernel
theorem dX7_vacate_23 : decode cX7_vacate 23 = .ok (.athrow, 1) := by decide +kernel
theorem dX7_vacate_24 : decode cX7_vacate 24 = .ok (.aload_n 0, 1) := by decide +kernel
theorem dX7_vacate_25 : decode cX7_vacate 25 = .ok (.getfield 10, 3) := by decide +kernel
theorem dX7_vacate_28 : decode cX7_vacate 28 = .ok (.iload_n 1, 1) := by decide +kernel
theorem dX7_vacate_29 : decode cX7_vacate 29 = .ok (.invokevirtual 159, 3) := by decide +kernel
theorem dX7_vacate_32 : decode cX7_vacate 32 = .ok (.ifCond .ne 13, 3) := by decide +kernel
theorem dX7_vacate_35 : decode cX7_vacate 35 = .ok (.new 74, 3) := by decide +kernel
theorem dX7_vacate_38 : decode cX7_vacate 38 = .ok (.dup, 1) := by decide +kernel
theorem dX7_vacate_39 : decode cX7_vacate 39 = .ok (.ldc 162, 2) := by decide +kernel
theorem dX7_vacate_41 : decode cX7_vacate 41 = .ok (.invokespecial 78, 3) := by decide +kernel
theorem dX7_vacate_44 : decode cX7_vacate 44 = .ok (.athrow, 1) := by decide +kernel
theorem dX7_vacate_45 : decode cX7_vacate 45 = .ok (.aload_n 0, 1) := by decide +kernel
theorem dX7_vacate_46 : decode cX7_vacate 46 = .ok (.getfield 22, 3) := by decide +kernel
theorem dX7_vacate_49 : decode cX7_vacate 49 = .ok (.aload_n 0, 1) := by decide +kernel
theorem dX7_vacate_50 : decode cX7_vacate 50 = .ok (.getfield 10, 3) := by decide +kernel
theorem dX7_vacate_53 : decode cX7_vacate 53 = .ok (.invokevirtual 79, 3) := by decide +kernel
theorem dX7_vacate_56 : decode cX7_vacate 56 = .ok (.aload_n 0, 1) := by decide +kernel
theorem dX7_vacate_57 : decode cX7_vacate 57 = .ok (.getfield 10, 3) := by decide +kernel
theorem dX7_vacate_60 : decode cX7_vacate 60 = .ok (.iload_n 1, 1) := by decide +kernel
theorem dX7_vacate_61 : decode cX7_vacate 61 = .ok (.iconst 3, 1) := by decide +kernel
theorem dX7_vacate_62 : decode cX7_vacate 62 = .ok (.aload_n 0, 1) := by decide +kernel
theorem dX7_vacate_63 : decode cX7_vacate 63 = .ok (.getfield 10, 3) := by decide +kernel
theorem dX7_vacate_66 : decode cX7_vacate 66 = .ok (.aload_n 0, 1) := by decide +kernel
theorem dX7_vacate_67 : decode cX7_vacate 67 = .ok (.getfield 10, 3) := by decide +kernel
theorem dX7_vacate_70 : decode cX7_vacate 70 = .ok (.getfield 89, 3) := by decide +kernel
theorem dX7_vacate_73 : decode cX7_vacate 73 = .ok (.getfield 180, 3) := by decide +kernel
theorem dX7_vacate_76 : decode cX7_vacate 76 = .ok (.iload_n 1, 1) := by decide +kernel
theorem dX7_vacate_77 : decode cX7_vacate 77 = .ok (.iaload, 1) := by decide +kernel
theorem dX7_vacate_78 : decode cX7_vacate 78 = .ok (.aload_n 0, 1) := by decide +kernel
theorem dX7_vacate_79 : decode cX7_vacate 79 = .ok (.getfield 10, 3) := by decide +kernel
theorem dX7_vacate_82 : decode cX7_vacate 82 = .ok (.getfield 98, 3) := by decide +kernel
theorem dX7_vacate_85 : decode cX7_vacate 85 = .ok (.isub, 1) := by decide +kernel
theorem dX7_vacate_86 : decode cX7_vacate 86 = .ok (.invokevirtual 183, 3) := by decide +kernel
theorem dX7_vacate_89 : decode cX7_vacate 89 = .ok (.invokevirtual 186, 3) := by decide +kernel
theorem dX7_vacate_92 : decode cX7_vacate 92 = .ok (.ireturn, 1) := by decide +kernel
theorem dX7_pass_0 : decode cX7_pass 0 = .ok (.iload_n 1, 1) := by decide +kernel
theorem dX7_pass_1 : decode cX7_pass 1 = .ok (.iconst 1, 1) := by decide +kernel
theorem dX7_pass_2 : decode cX7_pass 2 = .ok (.sipush 500, 3) := by decide +kernel
theorem dX7_pass_5 : decode cX7_pass 5 = .ok (.invokestatic 47, 3) := by decide +kernel
theorem dX7_pass_8 : decode cX7_pass 8 = .ok (.ifCond .ne 13, 3) := by decide +kernel
theorem dX7_pass_11 : decode cX7_pass 11 = .ok (.new 57, 3) := by decide +kernel
theorem dX7_pass_14 : decode cX7_pass 14 = .ok (.dup, 1) := by decide +kernel
theorem dX7_pass_15 : decode cX7_pass 15 = .ok (.ldc 189, 2) := by decide +kernel
theorem dX7_pass_17 : decode cX7_pass 17 = .ok (.invokespecial 61, 3) := by decide +kernel
theorem dX7_pass_20 : decode cX7_pass 20 = .ok (.athrow, 1) := by decide +kernel
theorem dX7_pass_21 : decode cX7_pass 21 = .ok (.aload_n 0, 1) := by decide +kernel
theorem dX7_pass_22 : decode cX7_pass 22 = .ok (.getfield 10, 3) := by decide +kernel
theorem dX7_pass_25 : decode cX7_pass 25 = .ok (.getfield 98, 3) := by decide +kernel
theorem dX7_pass_28 : decode cX7_pass 28 = .ok (.iload_n 1, 1) := by decide +kernel
theorem dX7_pass_29 : decode cX7_pass 29 = .ok (.iadd, 1) := by decide +kernel
theorem dX7_pass_30 : decode cX7_pass 30 = .ok (.sipush 20000, 3) := by decide +kernel
theorem dX7_pass_33 : decode cX7_pass 33 = .ok (.if_icmp .le 13, 3) := by decide +kernel
theorem dX7_pass_36 : decode cX7_pass 36 = .ok (.new 74, 3) := by decide +kernel
theorem dX7_pass_39 : decode cX7_pass 39 = .ok (.dup, 1) := by decide +kernel
theorem dX7_pass_40 : decode cX7_pass 40 = .ok (.ldc 191, 2) := by decide +kernel
theorem dX7_pass_42 : decode cX7_pass 42 = .ok (.invokespecial 78, 3) := by decide +kernel
theorem dX7_pass_45 : decode cX7_pass 45 = .ok (.athrow, 1) := by decide +kernel
theorem dX7_pass_46 : decode cX7_pass 46 = .ok (.aload_n 0, 1) := by decide +kernel
theorem dX7_pass_47 : decode cX7_pass 47 = .ok (.getfield 22, 3) := by decide +kernel
theorem dX7_pass_50 : decode cX7_pass 50 = .ok (.aload_n 0, 1) := by decide +kernel
theorem dX7_pass_51 : decode cX7_pass 51 = .ok (.getfield 10, 3) := by decide +kernel
theorem dX7_pass_54 : decode cX7_pass 54 = .ok (.invokevirtual 79, 3) := by decide +kernel
theorem dX7_pass_57 : decode cX7_pass 57 = .ok (.iconst 0, 1) := by decide +kernel
theorem dX7_pass_58 : decode cX7_pass 58 = .ok (.istore_n 2, 1) := by decide +kernel
theorem dX7_pass_59 : decode cX7_pass 59 = .ok (.iconst 0, 1) := by decide +kernel
theorem dX7_pass_60 : decode cX7_pass 60 = .ok (.istore_n 3, 1) := by decide +kernel
theorem dX7_pass_61 : decode cX7_pass 61 = .ok (.iload_n 3, 1) := by decide +kernel
theorem dX7_pass_62 : decode cX7_pass 62 = .ok (.iload_n 1, 1) := by decide +kernel
theorem dX7_pass_63 : decode cX7_pass 63 = .ok (.if_icmp .ge 19, 3) := by decide +kernel
theorem dX7_pass_66 : decode cX7_pass 66 = .ok (.iload_n 2, 1) := by decide +kernel
theorem dX7_pass_67 : decode cX7_pass 67 = .ok (.aload_n 0, 1) := by decide +kernel
theorem dX7_pass_68 : decode cX7_pass 68 = .ok (.getfield 10, 3) := by decide +kernel
theorem dX7_pass_71 : decode cX7_pass 71 = .ok (.invokevirtual 193, 3) := by decide +kernel
theorem dX7_pass_74 : decode cX7_pass 74 = .ok (.iadd, 1) := by decide +kernel
theorem dX7_pass_75 : decode cX7_pass 75 = .ok (.istore_n 2, 1) := by decide +kernel
theorem dX7_pass_76 : decode cX7_pass 76 = .ok (.iinc 3 1, 3) := by decide +kernel
theorem dX7_pass_79 : decode cX7_pass 79 = .ok (.goto (-18), 3) := by decide +kernel
theorem dX7_pass_82 : decode cX7_pass 82 = .ok (.iload_n 2, 1) := by decide +kernel
theorem dX7_pass_83 : decode cX7_pass 83 = .ok (.ireturn, 1) := by decide +kernel
theorem dX7_append_0 : decode cX7_append 0 = .ok (.iload_n 1, 1) := by decide +kernel
theorem dX7_append_1 : decode cX7_append 1 = .ok (.bipush 33, 2) := by decide +kernel
theorem dX7_append_3 : decode cX7_append 3 = .ok (.bipush 126, 2) := by decide +kernel
theorem dX7_append_5 : decode cX7_append 5 = .ok (.invokestatic 47, 3) := by decide +kernel
theorem dX7_append_8 : decode cX7_append 8 = .ok (.ifCond .ne 13, 3) := by decide +kernel
theorem dX7_append_11 : decode cX7_append 11 = .ok (.new 57, 3) := by decide +kernel
theorem dX7_append_14 : decode cX7_append 14 = .ok (.dup, 1) := by decide +kernel
theorem dX7_append_15 : decode cX7_append 15 = .ok (.ldc 197, 2) := by decide +kernel
theorem dX7_append_17 : decode cX7_append 17 = .ok (.invokespecial 61, 3) := by decide +kernel
theorem dX7_append_20 : decode cX7_append 20 = .ok (.athrow, 1) := by decide +kernel
theorem dX7_append_21 : decode cX7_append 21 = .ok (.aload_n 0, 1) := by decide +kernel
theorem dX7_append_22 : decode cX7_append 22 = .ok (.getfield 29, 3) := by decide +kernel
theorem dX7_append_25 : decode cX7_append 25 = .ok (.getfield 199, 3) := by decide +kernel
theorem dX7_append_28 : decode cX7_append 28 = .ok (.bipush 60, 2) := by decide +kernel
theorem dX7_append_30 : decode cX7_append 30 = .ok (.if_icmp .lt 13, 3) := by decide +kernel
theorem dX7_append_33 : decode cX7_append 33 = .ok (.new 74, 3) := by decide +kernel
theorem dX7_append_36 : decode cX7_append 36 = .ok (.dup, 1) := by decide +kernel
theorem dX7_append_37 : decode cX7_append 37 = .ok (.ldc 202, 2) := by decide +kernel
theorem dX7_append_39 : decode cX7_append 39 = .ok (.invokespecial 78, 3) := by decide +kernel
theorem dX7_append_42 : decode cX7_append 42 = .ok (.athrow, 1) := by decide +kernel
theorem dX7_append_43 : decode cX7_append 43 = .ok (.aload_n 0, 1) := by decide +kernel
theorem dX7_append_44 : decode cX7_append 44 = .ok (.getfield 29, 3) := by decide +kernel
theorem dX7_append_47 : decode cX7_append 47 = .ok (.iload_n 1, 1) := by decide +kernel
theorem dX7_append_48 : decode cX7_append 48 = .ok (.invokevirtual 204, 3) := by decide +kernel
theorem dX7_append_51 : decode cX7_append 51 = .ok (.aload_n 0, 1) := by decide +kernel
theorem dX7_append_52 : decode cX7_append 52 = .ok (.getfield 29, 3) := by decide +kernel
theorem dX7_append_55 : decode cX7_append 55 = .ok (.getfield 199, 3) := by decide +kernel
theorem dX7_append_58 : decode cX7_append 58 = .ok (.ireturn, 1) := by decide +kernel
theorem dX7_clearBuffer_0 : decode cX7_clearBuffer 0 = .ok (.aload_n 0, 1) := by decide +kernel
theorem dX7_clearBuffer_1 : decode cX7_clearBuffer 1 = .ok (.getfield 29, 3) := by decide +kernel
theorem dX7_clearBuffer_4 : decode cX7_clearBuffer 4 = .ok (.getfield 199, 3) := by decide +kernel
theorem dX7_clearBuffer_7 : decode cX7_clearBuffer 7 = .ok (.istore_n 1, 1) := by decide +kernel
theorem dX7_clearBuffer_8 : decode cX7_clearBuffer 8 = .ok (.aload_n 0, 1) := by decide +kernel
theorem dX7_clearBuffer_9 : decode cX7_clearBuffer 9 = .ok (.getfield 29, 3) := by decide +kernel
theorem dX7_clearBuffer_12 : decode cX7_clearBuffer 12 = .ok (.iconst 0, 1) := by decide +kernel
theorem dX7_clearBuffer_13 : decode cX7_clearBuffer 13 = .ok (.putfield 199, 3) := by decide +kernel
theorem dX7_clearBuffer_16 : decode cX7_clearBuffer 16 = .ok (.iload_n 1, 1) := by decide +kernel
theorem dX7_clearBuffer_17 : decode cX7_clearBuffer 17 = .ok (.ireturn, 1) := by decide +kernel
theorem dX7_firstError_0 : decode cX7_firstError 0 = .ok (.aload_n 0, 1) := by decide +kernel
theorem dX7_firstError_1 : decode cX7_firstError 1 = .ok (.getfield 36, 3) := by decide +kernel
theorem dX7_firstError_4 : decode cX7_firstError 4 = .ok (.aload_n 0, 1) := by decide +kernel
theorem dX7_firstError_5 : decode cX7_firstError 5 = .ok (.getfield 29, 3) := by decide +kernel
theorem dX7_firstError_8 : decode cX7_firstError 8 = .ok (.invokevirtual 208, 3) := by decide +kernel
theorem dX7_firstError_11 : decode cX7_firstError 11 = .ok (.ireturn, 1) := by decide +kernel
theorem dX7_addList_0 : decode cX7_addList 0 = .ok (.aload_n 0, 1) := by decide +kernel
theorem dX7_addList_1 : decode cX7_addList 1 = .ok (.getfield 36, 3) := by decide +kernel
theorem dX7_addList_4 : decode cX7_addList 4 = .ok (.aload_n 0, 1) := by decide +kernel
theorem dX7_addList_5 : decode cX7_addList 5 = .ok (.getfield 29, 3) := by decide +kernel
theorem dX7_addList_8 : decode cX7_addList 8 = .ok (.invokevirtual 208, 3) := by decide +kernel
theorem dX7_addList_11 : decode cX7_addList 11 = .ok (.aload_n 0, 1) := by decide +kernel
theorem dX7_addList_12 : decode cX7_addList 12 = .ok (.getfield 29, 3) := by decide +kernel
theorem dX7_addList_15 : decode cX7_addList 15 = .ok (.getfield 199, 3) := by decide +kernel
theorem dX7_addList_18 : decode cX7_addList 18 = .ok (.if_icmp .lt 13, 3) := by decide +kernel
theorem dX7_addList_21 : decode cX7_addList 21 = .ok (.aload_n 0, 1) := by decide +kernel
theorem dX7_addList_22 : decode cX7_addList 22 = .ok (.getfield 36, 3) := by decide +kernel
theorem dX7_addList_25 : decode cX7_addList 25 = .ok (.invokevirtual 212, 3) := by decide +kernel
theorem dX7_addList_28 : decode cX7_addList 28 = .ok (.ifCond .ne 13, 3) := by decide +kernel
theorem dX7_addList_31 : decode cX7_addList 31 = .ok (.new 57, 3) := by decide +kernel
theorem dX7_addList_34 : decode cX7_addList 34 = .ok (.dup, 1) := by decide +kernel
theorem dX7_addList_35 : decode cX7_addList 35 = .ok (.ldc 216, 2) := by decide +kernel
theorem dX7_addList_37 : decode cX7_addList 37 = .ok (.invokespecial 61, 3) := by decide +kernel
theorem dX7_addList_40 : decode cX7_addList 40 = .ok (.athrow, 1) := by decide +kernel
theorem dX7_addList_41 : decode cX7_addList 41 = .ok (.aload_n 0, 1) := by decide +kernel
theorem dX7_addList_42 : decode cX7_addList 42 = .ok (.getfield 10, 3) := by decide +kernel
theorem dX7_addList_45 : decode cX7_addList 45 = .ok (.getfield 89, 3) := by decide +kernel
theorem dX7_addList_48 : decode cX7_addList 48 = .ok (.getfield 93, 3) := by decide +kernel
theorem dX7_addList_51 : decode cX7_addList 51 = .ok (.aload_n 0, 1) := by decide +kernel
theorem dX7_addList_52 : decode cX7_addList 52 = .ok (.getfield 36, 3) := by decide +kernel
theorem dX7_addList_55 : decode cX7_addList 55 = .ok (.getfield 218, 3) := by decide +kernel
theorem dX7_addList_58 : decode cX7_addList 58 = .ok (.iadd, 1) := by decide +kernel
theorem dX7_addList_59 : decode cX7_addList 59 = .ok (.bipush 30, 2) := by decide +kernel
theorem dX7_addList_61 : decode cX7_addList 61 = .ok (.if_icmp .le 13, 3) := by decide +kernel
theorem dX7_addList_64 : decode cX7_addList 64 = .ok (.new 74, 3) := by decide +kernel
theorem dX7_addList_67 : decode cX7_addList 67 = .ok (.dup, 1) := by decide +kernel
theorem dX7_addList_68 : decode cX7_addList 68 = .ok (.ldc 221, 2) := by decide +kernel
theorem dX7_addList_70 : decode cX7_addList 70 = .ok (.invokespecial 78, 3) := by decide +kernel
theorem dX7_addList_73 : decode cX7_addList 73 = .ok (.athrow, 1) := by decide +kernel
theorem dX7_addList_74 : decode cX7_addList 74 = .ok (.aload_n 0, 1) := by decide +kernel
theorem dX7_addList_75 : decode cX7_addList 75 = .ok (.getfield 22, 3) := by decide +kernel
theorem dX7_addList_78 : decode cX7_addList 78 = .ok (.aload_n 0, 1) := by decide +kernel
theorem dX7_addList_79 : decode cX7_addList 79 = .ok (.getfield 10, 3) := by decide +kernel
theorem dX7_addList_82 : decode cX7_addList 82 = .ok (.invokevirtual 79, 3) := by decide +kernel
theorem dX7_addList_85 : decode cX7_addList 85 = .ok (.aload_n 0, 1) := by decide +kernel
theorem dX7_addList_86 : decode cX7_addList 86 = .ok (.getfield 36, 3) := by decide +kernel
theorem dX7_addList_89 : decode cX7_addList 89 = .ok (.aload_n 0, 1) := by decide +kernel
theorem dX7_addList_90 : decode cX7_addList 90 = .ok (.getfield 29, 3) := by decide +kernel
theorem dX7_addList_93 : decode cX7_addList 93 = .ok (.aload_n 0, 1) := by decide +kernel
theorem dX7_addList_94 : decode cX7_addList 94 = .ok (.getfield 10, 3) := by decide +kernel
theorem dX7_addList_97 : decode cX7_addList 97 = .ok (.invokevirtual 223, 3) := by decide +kernel
theorem dX7_addList_100 : decode cX7_addList 100 = .ok (.aload_n 0, 1) := by decide +kernel
theorem dX7_addList_101 : decode cX7_addList 101 = .ok (.getfield 29, 3) := by decide +kernel
theorem dX7_addList_104 : decode cX7_addList 104 = .ok (.iconst 0, 1) := by decide +kernel
theorem dX7_addList_105 : decode cX7_addList 105 = .ok (.putfield 199, 3) := by decide +kernel
theorem dX7_addList_108 : decode cX7_addList 108 = .ok (.aload_n 0, 1) := by decide +kernel
theorem dX7_addList_109 : decode cX7_addList 109 = .ok (.getfield 10, 3) := by decide +kernel
theorem dX7_addList_112 : decode cX7_addList 112 = .ok (.getfield 89, 3) := by decide +kernel
theorem dX7_addList_115 : decode cX7_addList 115 = .ok (.getfield 93, 3) := by decide +kernel
theorem dX7_addList_118 : decode cX7_addList 118 = .ok (.ireturn, 1) := by decide +kernel
theorem dX7_undo_0 : decode cX7_undo 0 = .ok (.aload_n 0, 1) := by decide +kernel
theorem dX7_undo_1 : decode cX7_undo 1 = .ok (.getfield 22, 3) := by decide +kernel
theorem dX7_undo_4 : decode cX7_undo 4 = .ok (.getfield 227, 3) := by decide +kernel
theorem dX7_undo_7 : decode cX7_undo 7 = .ok (.ifCond .ne 13, 3) := by decide +kernel
theorem dX7_undo_10 : decode cX7_undo 10 = .ok (.new 74, 3) := by decide +kernel
theorem dX7_undo_13 : decode cX7_undo 13 = .ok (.dup, 1) := by decide +kernel
theorem dX7_undo_14 : decode cX7_undo 14 = .ok (.ldc 228, 2) := by decide +kernel
theorem dX7_undo_16 : decode cX7_undo 16 = .ok (.invokespecial 78, 3) := by decide +kernel
theorem dX7_undo_19 : decode cX7_undo 19 = .ok (.athrow, 1) := by decide +kernel
theorem dX7_undo_20 : decode cX7_undo 20 = .ok (.aload_n 0, 1) := by decide +kernel
theorem dX7_undo_21 : decode cX7_undo 21 = .ok (.getfield 22, 3) := by decide +kernel
theorem dX7_undo_24 : decode cX7_undo 24 = .ok (.aload_n 0, 1) := by decide +kernel
theorem dX7_undo_25 : decode cX7_undo 25 = .ok (.getfield 10, 3) := by decide +kernel
theorem dX7_undo_28 : decode cX7_undo 28 = .ok (.invokevirtual 230, 3) := by decide +kernel
theorem dX7_undo_31 : decode cX7_undo 31 = .ok (.aload_n 0, 1) := by decide +kernel
theorem dX7_undo_32 : decode cX7_undo 32 = .ok (.getfield 22, 3) := by decide +kernel
theorem dX7_undo_35 : decode cX7_undo 35 = .ok (.getfield 227, 3) := by decide +kernel
theorem dX7_undo_38 : decode cX7_undo 38 = .ok (.ireturn, 1) := by decide +kernel
theorem dX7_interpreter_0 : decode cX7_interpreter 0 = .ok (.aload_n 0, 1) := by decide +kernel
theorem dX7_interpreter_1 : decode cX7_interpreter 1 = .ok (.getfield 10, 3) := by decide +kernel
theorem dX7_interpreter_4 : decode cX7_interpreter 4 = .ok (.getfield 64, 3) := by decide +kernel
theorem dX7_interpreter_7 : decode cX7_interpreter 7 = .ok (.iload_n 1, 1) := by decide +kernel
theorem dX7_interpreter_8 : decode cX7_interpreter 8 = .ok (.invokevirtual 105, 3) := by decide +kernel
theorem dX7_interpreter_11 : decode cX7_interpreter 11 = .ok (.ifCond .ne 13, 3) := by decide +kernel
theorem dX7_interpreter_14 : decode cX7_interpreter 14 = .ok (.new 109, 3) := by decide +kernel
theorem dX7_interpreter_17 : decode cX7_interpreter 17 = .ok (.dup, 1) := by decide +kernel
theorem dX7_interpreter_18 : decode cX7_interpreter 18 = .ok (.ldc 111, 2) := by decide +kernel
theorem dX7_interpreter_20 : decode cX7_interpreter 20 = .ok (.invokespecial 113, 3) := by decide +kernel
theorem dX7_interpreter_23 : decode cX7_interpreter 23 = .ok (.athrow, 1) := by decide +kernel
theorem dX7_interpreter_24 : decode cX7_interpreter 24 = .ok (.iload_n 2, 1) := by decide +kernel
theorem dX7_interpreter_25 : decode cX7_interpreter 25 = .ok (.iconst 0, 1) := by decide +kernel
theorem dX7_interpreter_26 : decode cX7_interpreter 26 = .ok (.bipush 7, 2) := by decide +kernel
theorem dX7_interpreter_28 : decode cX7_interpreter 28 = .ok (.invokestatic 47, 3) := by decide +kernel
theorem dX7_interpreter_31 : decode cX7_interpreter 31 = .ok (.ifCond .ne 13, 3) := by decide +kernel
theorem dX7_interpreter_34 : decode cX7_interpreter 34 = .ok (.new 57, 3) := by decide +kernel
theorem dX7_interpreter_37 : decode cX7_interpreter 37 = .ok (.dup, 1) := by decide +kernel
theorem dX7_interpreter_38 : decode cX7_interpreter 38 = .ok (.ldc 233, 2) := by decide +kernel
theorem dX7_interpreter_40 : decode cX7_interpreter 40 = .ok (.invokespecial 61, 3) := by decide +kernel
theorem dX7_interpreter_43 : decode cX7_interpreter 43 = .ok (.athrow, 1) := by decide +kernel
theorem dX7_interpreter_44 : decode cX7_interpreter 44 = .ok (.aload_n 0, 1) := by decide +kernel
theorem dX7_interpreter_45 : decode cX7_interpreter 45 = .ok (.getfield 10, 3) := by decide +kernel
theorem dX7_interpreter_48 : decode cX7_interpreter 48 = .ok (.iload_n 1, 1) := by decide +kernel
theorem dX7_interpreter_49 : decode cX7_interpreter 49 = .ok (.iload_n 2, 1) := by decide +kernel
theorem dX7_interpreter_50 : decode cX7_interpreter 50 = .ok (.invokevirtual 235, 3) := by decide +kernel
theorem dX7_interpreter_53 : decode cX7_interpreter 53 = .ok (.ireturn, 1) := by decide +kernel
theorem dX7_hearing_0 : decode cX7_hearing 0 = .ok (.aload_n 0, 1) := by decide +kernel
theorem dX7_hearing_1 : decode cX7_hearing 1 = .ok (.getfield 10, 3) := by decide +kernel
theorem dX7_hearing_4 : decode cX7_hearing 4 = .ok (.getfield 89, 3) := by decide +kernel
theorem dX7_hearing_7 : decode cX7_hearing 7 = .ok (.iload_n 1, 1) := by decide +kernel
theorem dX7_hearing_8 : decode cX7_hearing 8 = .ok (.invokevirtual 133, 3) := by decide +kernel
theorem dX7_hearing_11 : decode cX7_hearing 11 = .ok (.ifCond .ne 13, 3) := by decide +kernel
theorem dX7_hearing_14 : decode cX7_hearing 14 = .ok (.new 109, 3) := by decide +kernel
theorem dX7_hearing_17 : decode cX7_hearing 17 = .ok (.dup, 1) := by decide +kernel
theorem dX7_hearing_18 : decode cX7_hearing 18 = .ok (.ldc 157, 2) := by decide +kernel
theorem dX7_hearing_20 : decode cX7_hearing 20 = .ok (.invokespecial 113, 3) := by decide +kernel
theorem dX7_hearing_23 : decode cX7_hearing 23 = .ok (.athrow, 1) := by decide +kernel
theorem dX7_hearing_24 : decode cX7_hearing 24 = .ok (.iload_n 2, 1) := by decide +kernel
theorem dX7_hearing_25 : decode cX7_hearing 25 = .ok (.iconst 0, 1) := by decide +kernel
theorem dX7_hearing_26 : decode cX7_hearing 26 = .ok (.bipush 11, 2) := by decide +kernel
theorem dX7_hearing_28 : decode cX7_hearing 28 = .ok (.invokestatic 47, 3) := by decide +kernel
theorem dX7_hearing_31 : decode cX7_hearing 31 = .ok (.ifCond .ne 13, 3) := by decide +kernel
theorem dX7_hearing_34 : decode cX7_hearing 34 = .ok (.new 57, 3) := by decide +kernel
theorem dX7_hearing_37 : decode cX7_hearing 37 = .ok (.dup, 1) := by decide +kernel
theorem dX7_hearing_38 : decode cX7_hearing 38 = .ok (.ldc 238, 2) := by decide +kernel
theorem dX7_hearing_40 : decode cX7_hearing 40 = .ok (.invokespecial 61, 3) := by decide +kernel
theorem dX7_hearing_43 : decode cX7_hearing 43 = .ok (.athrow, 1) := by decide +kernel
theorem dX7_hearing_44 : decode cX7_hearing 44 = .ok (.aload_n 0, 1) := by decide +kernel
theorem dX7_hearing_45 : decode cX7_hearing 45 = .ok (.getfield 10, 3) := by decide +kernel
theorem dX7_hearing_48 : decode cX7_hearing 48 = .ok (.iload_n 1, 1) := by decide +kernel
theorem dX7_hearing_49 : decode cX7_hearing 49 = .ok (.iload_n 2, 1) := by decide +kernel
theorem dX7_hearing_50 : decode cX7_hearing 50 = .ok (.invokevirtual 240, 3) := by decide +kernel
theorem dX7_hearing_53 : decode cX7_hearing 53 = .ok (.ireturn, 1) := by decide +kernel
theorem dX7_count_0 : decode cX7_count 0 = .ok (.iload_n 1, 1) := by decide +kernel
theorem dX7_count_1 : decode cX7_count 1 = .ok (.iconst 0, 1) := by decide +kernel
theorem dX7_count_2 : decode cX7_count 2 = .ok (.bipush 12, 2) := by decide +kernel
theorem dX7_count_4 : decode cX7_count 4 = .ok (.invokestatic 47, 3) := by decide +kernel
theorem dX7_count_7 : decode cX7_count 7 = .ok (.ifCond .ne 13, 3) := by decide +kernel
theorem dX7_count_10 : decode cX7_count 10 = .ok (.new 57, 3) := by decide +kernel
theorem dX7_count_13 : decode cX7_count 13 = .ok (.dup, 1) := by decide +kernel
theorem dX7_count_14 : decode cX7_count 14 = .ok (.ldc 243, 2) := by decide +kernel
theorem dX7_count_16 : decode cX7_count 16 = .ok (.invokespecial 61, 3) := by decide +kernel
theorem dX7_count_19 : decode cX7_count 19 = .ok (.athrow, 1) := by decide +kernel
theorem dX7_count_20 : decode cX7_count 20 = .ok (.iload_n 1, 1) := by decide +kernel
theorem dX7_count_21 : decode cX7_count 21 = .ok (.bipush 12, 2) := by decide +kernel
theorem dX7_count_23 : decode cX7_count 23 = .ok (.if_icmp .ne 13, 3) := by decide +kernel
theorem dX7_count_26 : decode cX7_count 26 = .ok (.aload_n 0, 1) := by decide +kernel
theorem dX7_count_27 : decode cX7_count 27 = .ok (.getfield 22, 3) := by decide +kernel
theorem dX7_count_30 : decode cX7_count 30 = .ok (.getfield 227, 3) := by decide +kernel
theorem dX7_count_33 : decode cX7_count 33 = .ok (.goto 11, 3) := by decide +kernel
theorem dX7_count_36 : decode cX7_count 36 = .ok (.aload_n 0, 1) := by decide +kernel
theorem dX7_count_37 : decode cX7_count 37 = .ok (.getfield 10, 3) := by decide +kernel
theorem dX7_count_40 : decode cX7_count 40 = .ok (.iload_n 1, 1) := by decide +kernel
theorem dX7_count_41 : decode cX7_count 41 = .ok (.invokevirtual 245, 3) := by decide +kernel
theorem dX7_count_44 : decode cX7_count 44 = .ok (.ireturn, 1) := by decide +kernel
theorem dX7_setting_0 : decode cX7_setting 0 = .ok (.iload_n 1, 1) := by decide +kernel
theorem dX7_setting_1 : decode cX7_setting 1 = .ok (.invokestatic 120, 3) := by decide +kernel
theorem dX7_setting_4 : decode cX7_setting 4 = .ok (.ifCond .ne 13, 3) := by decide +kernel
theorem dX7_setting_7 : decode cX7_setting 7 = .ok (.new 109, 3) := by decide +kernel
theorem dX7_setting_10 : decode cX7_setting 10 = .ok (.dup, 1) := by decide +kernel
theorem dX7_setting_11 : decode cX7_setting 11 = .ok (.ldc 123, 2) := by decide +kernel
theorem dX7_setting_13 : decode cX7_setting 13 = .ok (.invokespecial 113, 3) := by decide +kernel
theorem dX7_setting_16 : decode cX7_setting 16 = .ok (.athrow, 1) := by decide +kernel
theorem dX7_setting_17 : decode cX7_setting 17 = .ok (.aload_n 0, 1) := by decide +kernel
theorem dX7_setting_18 : decode cX7_setting 18 = .ok (.getfield 10, 3) := by decide +kernel
theorem dX7_setting_21 : decode cX7_setting 21 = .ok (.getfield 130, 3) := by decide +kernel
theorem dX7_setting_24 : decode cX7_setting 24 = .ok (.iload_n 1, 1) := by decide +kernel
theorem dX7_setting_25 : decode cX7_setting 25 = .ok (.iaload, 1) := by decide +kernel
theorem dX7_setting_26 : decode cX7_setting 26 = .ok (.ireturn, 1) := by decide +kernel
theorem dX7_whyNot_0 : decode cX7_whyNot 0 = .ok (.aload_n 0, 1) := by decide +kernel
theorem dX7_whyNot_1 : decode cX7_whyNot 1 = .ok (.getfield 10, 3) := by decide +kernel
theorem dX7_whyNot_4 : decode cX7_whyNot 4 = .ok (.getfield 89, 3) := by decide +kernel
theorem dX7_whyNot_7 : decode cX7_whyNot 7 = .ok (.iload_n 1, 1) := by decide +kernel
theorem dX7_whyNot_8 : decode cX7_whyNot 8 = .ok (.invokevirtual 133, 3) := by decide +kernel
theorem dX7_whyNot_11 : decode cX7_whyNot 11 = .ok (.ifCond .eq 14, 3) := by decide +kernel
theorem dX7_whyNot_14 : decode cX7_whyNot 14 = .ok (.aload_n 0, 1) := by decide +kernel
theorem dX7_whyNot_15 : decode cX7_whyNot 15 = .ok (.iload_n 2, 1) := by decide +kernel
theorem dX7_whyNot_16 : decode cX7_whyNot 16 = .ok (.iload_n 3, 1) := by decide +kernel
theorem dX7_whyNot_17 : decode cX7_whyNot 17 = .ok (.iload 4, 2) := by decide +kernel
theorem dX7_whyNot_19 : decode cX7_whyNot 19 = .ok (.invokevirtual 134, 3) := by decide +kernel
theorem dX7_whyNot_22 : decode cX7_whyNot 22 = .ok (.ifCond .ne 13, 3) := by decide +kernel
theorem dX7_whyNot_25 : decode cX7_whyNot 25 = .ok (.new 109, 3) := by decide +kernel
theorem dX7_whyNot_28 : decode cX7_whyNot 28 = .ok (.dup, 1) := by decide +kernel
theorem dX7_whyNot_29 : decode cX7_whyNot 29 = .ok (.ldc 137, 2) := by decide +kernel
theorem dX7_whyNot_31 : decode cX7_whyNot 31 = .ok (.invokespecial 113, 3) := by decide +kernel
theorem dX7_whyNot_34 : decode cX7_whyNot 34 = .ok (.athrow, 1) := by decide +kernel
theorem dX7_whyNot_35 : decode cX7_whyNot 35 = .ok (.iload_n 2, 1) := by decide +kernel
theorem dX7_whyNot_36 : decode cX7_whyNot 36 = .ok (.iload_n 3, 1) := by decide +kernel
theorem dX7_whyNot_37 : decode cX7_whyNot 37 = .ok (.iload 4, 2) := by decide +kernel
theorem dX7_whyNot_39 : decode cX7_whyNot 39 = .ok (.invokestatic 139, 3) := by decide +kernel
theorem dX7_whyNot_42 : decode cX7_whyNot 42 = .ok (.ifCond .ne 13, 3) := by decide +kernel
theorem dX7_whyNot_45 : decode cX7_whyNot 45 = .ok (.new 57, 3) := by decide +kernel
theorem dX7_whyNot_48 : decode cX7_whyNot 48 = .ok (.dup, 1) := by decide +kernel
theorem dX7_whyNot_49 : decode cX7_whyNot 49 = .ok (.ldc 142, 2) := by decide +kernel
theorem dX7_whyNot_51 : decode cX7_whyNot 51 = .ok (.invokespecial 61, 3) := by decide +kernel
theorem dX7_whyNot_54 : decode cX7_whyNot 54 = .ok (.athrow, 1) := by decide +kernel
theorem dX7_whyNot_55 : decode cX7_whyNot 55 = .ok (.aload_n 0, 1) := by decide +kernel
theorem dX7_whyNot_56 : decode cX7_whyNot 56 = .ok (.getfield 10, 3) := by decide +kernel
theorem dX7_whyNot_59 : decode cX7_whyNot 59 = .ok (.iload_n 1, 1) := by decide +kernel
theorem dX7_whyNot_60 : decode cX7_whyNot 60 = .ok (.iload_n 2, 1) := by decide +kernel
theorem dX7_whyNot_61 : decode cX7_whyNot 61 = .ok (.iload_n 3, 1) := by decide +kernel
theorem dX7_whyNot_62 : decode cX7_whyNot 62 = .ok (.iload 4, 2) := by decide +kernel
theorem dX7_whyNot_64 : decode cX7_whyNot 64 = .ok (.invokevirtual 144, 3) := by decide +kernel
theorem dX7_whyNot_67 : decode cX7_whyNot 67 = .ok (.ireturn, 1) := by decide +kernel
theorem dX7_cheapest_0 : decode cX7_cheapest 0 = .ok (.aload_n 0, 1) := by decide +kernel
theorem dX7_cheapest_1 : decode cX7_cheapest 1 = .ok (.getfield 10, 3) := by decide +kernel
theorem dX7_cheapest_4 : decode cX7_cheapest 4 = .ok (.getfield 89, 3) := by decide +kernel
theorem dX7_cheapest_7 : decode cX7_cheapest 7 = .ok (.iload_n 1, 1) := by decide +kernel
theorem dX7_cheapest_8 : decode cX7_cheapest 8 = .ok (.invokevirtual 133, 3) := by decide +kernel
theorem dX7_cheapest_11 : decode cX7_cheapest 11 = .ok (.ifCond .ne 13, 3) := by decide +kernel
theorem dX7_cheapest_14 : decode cX7_cheapest 14 = .ok (.new 109, 3) := by decide +kernel
theorem dX7_cheapest_17 : decode cX7_cheapest 17 = .ok (.dup, 1) := by decide +kernel
theorem dX7_cheapest_18 : decode cX7_cheapest 18 = .ok (.ldc 157, 2) := by decide +kernel
theorem dX7_cheapest_20 : decode cX7_cheapest 20 = .ok (.invokespecial 113, 3) := by decide +kernel
theorem dX7_cheapest_23 : decode cX7_cheapest 23 = .ok (.athrow, 1) := by decide +kernel
theorem dX7_cheapest_24 : decode cX7_cheapest 24 = .ok (.iload_n 2, 1) := by decide +kernel
theorem dX7_cheapest_25 : decode cX7_cheapest 25 = .ok (.iconst 0, 1) := by decide +kernel
theorem dX7_cheapest_26 : decode cX7_cheapest 26 = .ok (.iconst 4, 1) := by decide +kernel
theorem dX7_cheapest_27 : decode cX7_cheapest 27 = .ok (.invokestatic 47, 3) := by decide +kernel
theorem dX7_cheapest_30 : decode cX7_cheapest 30 = .ok (.ifCond .ne 13, 3) := by decide +kernel
theorem dX7_cheapest_33 : decode cX7_cheapest 33 = .ok (.new 57, 3) := by decide +kernel
theorem dX7_cheapest_36 : decode cX7_cheapest 36 = .ok (.dup, 1) := by decide +kernel
theorem dX7_cheapest_37 : decode cX7_cheapest 37 = .ok (.ldc 248, 2) := by decide +kernel
theorem dX7_cheapest_39 : decode cX7_cheapest 39 = .ok (.invokespecial 61, 3) := by decide +kernel
theorem dX7_cheapest_42 : decode cX7_cheapest 42 = .ok (.athrow, 1) := by decide +kernel
theorem dX7_cheapest_43 : decode cX7_cheapest 43 = .ok (.aload_n 0, 1) := by decide +kernel
theorem dX7_cheapest_44 : decode cX7_cheapest 44 = .ok (.getfield 43, 3) := by decide +kernel
theorem dX7_cheapest_47 : decode cX7_cheapest 47 = .ok (.aload_n 0, 1) := by decide +kernel
theorem dX7_cheapest_48 : decode cX7_cheapest 48 = .ok (.getfield 10, 3) := by decide +kernel
theorem dX7_cheapest_51 : decode cX7_cheapest 51 = .ok (.iload_n 1, 1) := by decide +kernel
theorem dX7_cheapest_52 : decode cX7_cheapest 52 = .ok (.invokevirtual 250, 3) := by decide +kernel
theorem dX7_cheapest_55 : decode cX7_cheapest 55 = .ok (.aload_n 0, 1) := by decide +kernel
theorem dX7_cheapest_56 : decode cX7_cheapest 56 = .ok (.getfield 43, 3) := by decide +kernel
theorem dX7_cheapest_59 : decode cX7_cheapest 59 = .ok (.iload_n 2, 1) := by decide +kernel
theorem dX7_cheapest_60 : decode cX7_cheapest 60 = .ok (.invokevirtual 254, 3) := by decide +kernel
theorem dX7_cheapest_63 : decode cX7_cheapest 63 = .ok (.ireturn, 1) := by decide +kernel
theorem dX7_tiredIn_0 : decode cX7_tiredIn 0 = .ok (.aload_n 0, 1) := by decide +kernel
theorem dX7_tiredIn_1 : decode cX7_tiredIn 1 = .ok (.getfield 10, 3) := by decide +kernel
theorem dX7_tiredIn_4 : decode cX7_tiredIn 4 = .ok (.getfield 64, 3) := by decide +kernel
theorem dX7_tiredIn_7 : decode cX7_tiredIn 7 = .ok (.iload_n 1, 1) := by decide +kernel
theorem dX7_tiredIn_8 : decode cX7_tiredIn 8 = .ok (.invokevirtual 105, 3) := by decide +kernel
theorem dX7_tiredIn_11 : decode cX7_tiredIn 11 = .ok (.ifCond .ne 13, 3) := by decide +kernel
theorem dX7_tiredIn_14 : decode cX7_tiredIn 14 = .ok (.new 109, 3) := by decide +kernel
theorem dX7_tiredIn_17 : decode cX7_tiredIn 17 = .ok (.dup, 1) := by decide +kernel
theorem dX7_tiredIn_18 : decode cX7_tiredIn 18 = .ok (.ldc 111, 2) := by decide +kernel
theorem dX7_tiredIn_20 : decode cX7_tiredIn 20 = .ok (.invokespecial 113, 3) := by decide +kernel
theorem dX7_tiredIn_23 : decode cX7_tiredIn 23 = .ok (.athrow, 1) := by decide +kernel
theorem dX7_tiredIn_24 : decode cX7_tiredIn 24 = .ok (.iload_n 2, 1) := by decide +kernel
theorem dX7_tiredIn_25 : decode cX7_tiredIn 25 = .ok (.iconst 0, 1) := by decide +kernel
theorem dX7_tiredIn_26 : decode cX7_tiredIn 26 = .ok (.sipush 500, 3) := by decide +kernel
theorem dX7_tiredIn_29 : decode cX7_tiredIn 29 = .ok (.invokestatic 47, 3) := by decide +kernel
theorem dX7_tiredIn_32 : decode cX7_tiredIn 32 = .ok (.ifCond .ne 13, 3) := by decide +kernel
theorem dX7_tiredIn_35 : decode cX7_tiredIn 35 = .ok (.new 57, 3) := by decide +kernel
theorem dX7_tiredIn_38 : decode cX7_tiredIn 38 = .ok (.dup, 1) := by decide +kernel
theorem dX7_tiredIn_39 : decode cX7_tiredIn 39 = .ok (.ldc 189, 2) := by decide +kernel
theorem dX7_tiredIn_41 : decode cX7_tiredIn 41 = .ok (.invokespecial 61, 3) := by decide +kernel
theorem dX7_tiredIn_44 : decode cX7_tiredIn 44 = .ok (.athrow, 1) := by decide +kernel
theorem dX7_tiredIn_45 : decode cX7_tiredIn 45 = .ok (.aload_n 0, 1) := by decide +kernel
theorem dX7_tiredIn_46 : decode cX7_tiredIn 46 = .ok (.iload_n 2, 1) := by decide +kernel
theorem dX7_tiredIn_47 : decode cX7_tiredIn 47 = .ok (.invokevirtual 257, 3) := by decide +kernel
theorem dX7_tiredIn_50 : decode cX7_tiredIn 50 = .ok (.aload_n 0, 1) := by decide +kernel
theorem dX7_tiredIn_51 : decode cX7_tiredIn 51 = .ok (.getfield 16, 3) := by decide +kernel
theorem dX7_tiredIn_54 : decode cX7_tiredIn 54 = .ok (.getfield 64, 3) := by decide +kernel
theorem dX7_tiredIn_57 : decode cX7_tiredIn 57 = .ok (.getfield 260, 3) := by decide +kernel
theorem dX7_tiredIn_60 : decode cX7_tiredIn 60 = .ok (.iload_n 1, 1) := by decide +kernel
theorem dX7_tiredIn_61 : decode cX7_tiredIn 61 = .ok (.iaload, 1) := by decide +kernel
theorem dX7_tiredIn_62 : decode cX7_tiredIn 62 = .ok (.ireturn, 1) := by decide +kernel
theorem dX7_ifVacated_0 : decode cX7_ifVacated 0 = .ok (.aload_n 0, 1) := by decide +kernel
theorem dX7_ifVacated_1 : decode cX7_ifVacated 1 = .ok (.getfield 10, 3) := by decide +kernel
theorem dX7_ifVacated_4 : decode cX7_ifVacated 4 = .ok (.getfield 89, 3) := by decide +kernel
theorem dX7_ifVacated_7 : decode cX7_ifVacated 7 = .ok (.iload_n 1, 1) := by decide +kernel
theorem dX7_ifVacated_8 : decode cX7_ifVacated 8 = .ok (.invokevirtual 133, 3) := by decide +kernel
theorem dX7_ifVacated_11 : decode cX7_ifVacated 11 = .ok (.ifCond .ne 13, 3) := by decide +kernel
theorem dX7_ifVacated_14 : decode cX7_ifVacated 14 = .ok (.new 109, 3) := by decide +kernel
theorem dX7_ifVacated_17 : decode cX7_ifVacated 17 = .ok (.dup, 1) := by decide +kernel
theorem dX7_ifVacated_18 : decode cX7_ifVacated 18 = .ok (.ldc 157, 2) := by decide +kernel
theorem dX7_ifVacated_20 : decode cX7_ifVacated 20 = .ok (.invokespecial 113, 3) := by decide +kernel
theorem dX7_ifVacated_23 : decode cX7_ifVacated 23 = .ok (.athrow, 1) := by decide +kernel
theorem dX7_ifVacated_24 : decode cX7_ifVacated 24 = .ok (.iload_n 2, 1) := by decide +kernel
theorem dX7_ifVacated_25 : decode cX7_ifVacated 25 = .ok (.iconst 0, 1) := by decide +kernel
theorem dX7_ifVacated_26 : decode cX7_ifVacated 26 = .ok (.sipush 2000, 3) := by decide +kernel
theorem dX7_ifVacated_29 : decode cX7_ifVacated 29 = .ok (.invokestatic 47, 3) := by decide +kernel
theorem dX7_ifVacated_32 : decode cX7_ifVacated 32 = .ok (.ifCond .ne 13, 3) := by decide +kernel
theorem dX7_ifVacated_35 : decode cX7_ifVacated 35 = .ok (.new 57, 3) := by decide +kernel
theorem dX7_ifVacated_38 : decode cX7_ifVacated 38 = .ok (.dup, 1) := by decide +kernel
theorem dX7_ifVacated_39 : decode cX7_ifVacated 39 = .ok (.ldc 189, 2) := by decide +kernel
theorem dX7_ifVacated_41 : decode cX7_ifVacated 41 = .ok (.invokespecial 61, 3) := by decide +kernel
theorem dX7_ifVacated_44 : decode cX7_ifVacated 44 = .ok (.athrow, 1) := by decide +kernel
theorem dX7_ifVacated_45 : decode cX7_ifVacated 45 = .ok (.aload_n 0, 1) := by decide +kernel
theorem dX7_ifVacated_46 : decode cX7_ifVacated 46 = .ok (.getfield 10, 3) := by decide +kernel
theorem dX7_ifVacated_49 : decode cX7_ifVacated 49 = .ok (.iload_n 1, 1) := by decide +kernel
theorem dX7_ifVacated_50 : decode cX7_ifVacated 50 = .ok (.iload_n 2, 1) := by decide +kernel
theorem dX7_ifVacated_51 : decode cX7_ifVacated 51 = .ok (.invokevirtual 263, 3) := by decide +kernel
theorem dX7_ifVacated_54 : decode cX7_ifVacated 54 = .ok (.ireturn, 1) := by decide +kernel
theorem dX7_mannable_0 : decode cX7_mannable 0 = .ok (.aload_n 0, 1) := by decide +kernel
theorem dX7_mannable_1 : decode cX7_mannable 1 = .ok (.getfield 16, 3) := by decide +kernel
theorem dX7_mannable_4 : decode cX7_mannable 4 = .ok (.aload_n 0, 1) := by decide +kernel
theorem dX7_mannable_5 : decode cX7_mannable 5 = .ok (.getfield 10, 3) := by decide +kernel
theorem dX7_mannable_8 : decode cX7_mannable 8 = .ok (.invokevirtual 266, 3) := by decide +kernel
theorem dX7_mannable_11 : decode cX7_mannable 11 = .ok (.iconst 0, 1) := by decide +kernel
theorem dX7_mannable_12 : decode cX7_mannable 12 = .ok (.istore_n 1, 1) := by decide +kernel
theorem dX7_mannable_13 : decode cX7_mannable 13 = .ok (.iconst 0, 1) := by decide +kernel
theorem dX7_mannable_14 : decode cX7_mannable 14 = .ok (.istore_n 2, 1) := by decide +kernel
theorem dX7_mannable_15 : decode cX7_mannable 15 = .ok (.iload_n 2, 1) := by decide +kernel
theorem dX7_mannable_16 : decode cX7_mannable 16 = .ok (.aload_n 0, 1) := by decide +kernel
theorem dX7_mannable_17 : decode cX7_mannable 17 = .ok (.getfield 16, 3) := by decide +kernel
theorem dX7_mannable_20 : decode cX7_mannable 20 = .ok (.getfield 89, 3) := by decide +kernel
theorem dX7_mannable_23 : decode cX7_mannable 23 = .ok (.getfield 93, 3) := by decide +kernel
theorem dX7_mannable_26 : decode cX7_mannable 26 = .ok (.if_icmp .ge 92, 3) := by decide +kernel
theorem dX7_mannable_29 : decode cX7_mannable 29 = .ok (.aload_n 0, 1) := by decide +kernel
theorem dX7_mannable_30 : decode cX7_mannable 30 = .ok (.getfield 16, 3) := by decide +kernel
theorem dX7_mannable_33 : decode cX7_mannable 33 = .ok (.iload_n 2, 1) := by decide +kernel
theorem dX7_mannable_34 : decode cX7_mannable 34 = .ok (.invokevirtual 159, 3) := by decide +kernel
theorem dX7_mannable_37 : decode cX7_mannable 37 = .ok (.ifCond .eq 75, 3) := by decide +kernel
theorem dX7_mannable_40 : decode cX7_mannable 40 = .ok (.aload_n 0, 1) := by decide +kernel
theorem dX7_mannable_41 : decode cX7_mannable 41 = .ok (.getfield 16, 3) := by decide +kernel
theorem dX7_mannable_44 : decode cX7_mannable 44 = .ok (.getfield 89, 3) := by decide +kernel
theorem dX7_mannable_47 : decode cX7_mannable 47 = .ok (.getfield 164, 3) := by decide +kernel
theorem dX7_mannable_50 : decode cX7_mannable 50 = .ok (.iload_n 2, 1) := by decide +kernel
theorem dX7_mannable_51 : decode cX7_mannable 51 = .ok (.iaload, 1) := by decide +kernel
theorem dX7_mannable_52 : decode cX7_mannable 52 = .ok (.ifCond .ne 60, 3) := by decide +kernel
theorem dX7_mannable_55 : decode cX7_mannable 55 = .ok (.aload_n 0, 1) := by decide +kernel
theorem dX7_mannable_56 : decode cX7_mannable 56 = .ok (.getfield 43, 3) := by decide +kernel
theorem dX7_mannable_59 : decode cX7_mannable 59 = .ok (.aload_n 0, 1) := by decide +kernel
theorem dX7_mannable_60 : decode cX7_mannable 60 = .ok (.getfield 16, 3) := by decide +kernel
theorem dX7_mannable_63 : decode cX7_mannable 63 = .ok (.iload_n 2, 1) := by decide +kernel
theorem dX7_mannable_64 : decode cX7_mannable 64 = .ok (.invokevirtual 250, 3) := by decide +kernel
theorem dX7_mannable_67 : decode cX7_mannable 67 = .ok (.aload_n 0, 1) := by decide +kernel
theorem dX7_mannable_68 : decode cX7_mannable 68 = .ok (.getfield 43, 3) := by decide +kernel
theorem dX7_mannable_71 : decode cX7_mannable 71 = .ok (.getfield 269, 3) := by decide +kernel
theorem dX7_mannable_74 : decode cX7_mannable 74 = .ok (.ifCond .le 38, 3) := by decide +kernel
theorem dX7_mannable_77 : decode cX7_mannable 77 = .ok (.aload_n 0, 1) := by decide +kernel
theorem dX7_mannable_78 : decode cX7_mannable 78 = .ok (.getfield 16, 3) := by decide +kernel
theorem dX7_mannable_81 : decode cX7_mannable 81 = .ok (.getfield 89, 3) := by decide +kernel
theorem dX7_mannable_84 : decode cX7_mannable 84 = .ok (.iload_n 2, 1) := by decide +kernel
theorem dX7_mannable_85 : decode cX7_mannable 85 = .ok (.aload_n 0, 1) := by decide +kernel
theorem dX7_mannable_86 : decode cX7_mannable 86 = .ok (.getfield 43, 3) := by decide +kernel
theorem dX7_mannable_89 : decode cX7_mannable 89 = .ok (.getfield 271, 3) := by decide +kernel
theorem dX7_mannable_92 : decode cX7_mannable 92 = .ok (.aload_n 0, 1) := by decide +kernel
theorem dX7_mannable_93 : decode cX7_mannable 93 = .ok (.getfield 43, 3) := by decide +kernel
theorem dX7_mannable_96 : decode cX7_mannable 96 = .ok (.getfield 274, 3) := by decide +kernel
theorem dX7_mannable_99 : decode cX7_mannable 99 = .ok (.aload_n 0, 1) := by decide +kernel
theorem dX7_mannable_100 : decode cX7_mannable 100 = .ok (.getfield 43, 3) := by decide +kernel
theorem dX7_mannable_103 : decode cX7_mannable 103 = .ok (.getfield 277, 3) := by decide +kernel
theorem dX7_mannable_106 : decode cX7_mannable 106 = .ok (.invokevirtual 149, 3) := by decide +kernel
theorem dX7_mannable_109 : decode cX7_mannable 109 = .ok (.iinc 1 1, 3) := by decide +kernel
theorem dX7_mannable_112 : decode cX7_mannable 112 = .ok (.iinc 2 1, 3) := by decide +kernel
theorem dX7_mannable_115 : decode cX7_mannable 115 = .ok (.goto (-100), 3) := by decide +kernel
theorem dX7_mannable_118 : decode cX7_mannable 118 = .ok (.iload_n 1, 1) := by decide +kernel
theorem dX7_mannable_119 : decode cX7_mannable 119 = .ok (.ireturn, 1) := by decide +kernel
theorem dX7_missing_0 : decode cX7_missing 0 = .ok (.iload_n 1, 1) := by decide +kernel
theorem dX7_missing_1 : decode cX7_missing 1 = .ok (.iconst 0, 1) := by decide +kernel
theorem dX7_missing_2 : decode cX7_missing 2 = .ok (.iconst 2, 1) := by decide +kernel
theorem dX7_missing_3 : decode cX7_missing 3 = .ok (.invokestatic 47, 3) := by decide +kernel
theorem dX7_missing_6 : decode cX7_missing 6 = .ok (.ifCond .ne 14, 3) := by decide +kernel
theorem dX7_missing_9 : decode cX7_missing 9 = .ok (.new 57, 3) := by decide +kernel
theorem dX7_missing_12 : decode cX7_missing 12 = .ok (.dup, 1) := by decide +kernel
theorem dX7_missing_13 : decode cX7_missing 13 = .ok (.ldc_w 280, 3) := by decide +kernel
theorem dX7_missing_16 : decode cX7_missing 16 = .ok (.invokespecial 61, 3) := by decide +kernel
theorem dX7_missing_19 : decode cX7_missing 19 = .ok (.athrow, 1) := by decide +kernel
theorem dX7_missing_20 : decode cX7_missing 20 = .ok (.aload_n 0, 1) := by decide +kernel
theorem dX7_missing_21 : decode cX7_missing 21 = .ok (.getfield 10, 3) := by decide +kernel
theorem dX7_missing_24 : decode cX7_missing 24 = .ok (.getfield 64, 3) := by decide +kernel
theorem dX7_missing_27 : decode cX7_missing 27 = .ok (.iload_n 1, 1) := by decide +kernel
theorem dX7_missing_28 : decode cX7_missing 28 = .ok (.invokevirtual 282, 3) := by decide +kernel
theorem dX7_missing_31 : decode cX7_missing 31 = .ok (.ireturn, 1) := by decide +kernel
theorem dX7_doneShare_0 : decode cX7_doneShare 0 = .ok (.aload_n 0, 1) := by decide +kernel
theorem dX7_doneShare_1 : decode cX7_doneShare 1 = .ok (.getfield 10, 3) := by decide +kernel
theorem dX7_doneShare_4 : decode cX7_doneShare 4 = .ok (.getfield 285, 3) := by decide +kernel
theorem dX7_doneShare_7 : decode cX7_doneShare 7 = .ok (.ifCond .ne 5, 3) := by decide +kernel
theorem dX7_doneShare_10 : decode cX7_doneShare 10 = .ok (.dconst 0, 1) := by decide +kernel
theorem dX7_doneShare_11 : decode cX7_doneShare 11 = .ok (.dreturn, 1) := by decide +kernel
theorem dX7_doneShare_12 : decode cX7_doneShare 12 = .ok (.aload_n 0, 1) := by decide +kernel
theorem dX7_doneShare_13 : decode cX7_doneShare 13 = .ok (.getfield 10, 3) := by decide +kernel
theorem dX7_doneShare_16 : decode cX7_doneShare 16 = .ok (.getfield 285, 3) := by decide +kernel
theorem dX7_doneShare_19 : decode cX7_doneShare 19 = .ok (.aload_n 0, 1) := by decide +kernel
theorem dX7_doneShare_20 : decode cX7_doneShare 20 = .ok (.getfield 10, 3) := by decide +kernel
theorem dX7_doneShare_23 : decode cX7_doneShare 23 = .ok (.getfield 288, 3) := by decide +kernel
theorem dX7_doneShare_26 : decode cX7_doneShare 26 = .ok (.isub, 1) := by decide +kernel
theorem dX7_doneShare_27 : decode cX7_doneShare 27 = .ok (.aload_n 0, 1) := by decide +kernel
theorem dX7_doneShare_28 : decode cX7_doneShare 28 = .ok (.getfield 10, 3) := by decide +kernel
theorem dX7_doneShare_31 : decode cX7_doneShare 31 = .ok (.getfield 291, 3) := by decide +kernel
theorem dX7_doneShare_34 : decode cX7_doneShare 34 = .ok (.isub, 1) := by decide +kernel
theorem dX7_doneShare_35 : decode cX7_doneShare 35 = .ok (.i2d, 1) := by decide +kernel
theorem dX7_doneShare_36 : decode cX7_doneShare 36 = .ok (.aload_n 0, 1) := by decide +kernel
theorem dX7_doneShare_37 : decode cX7_doneShare 37 = .ok (.getfield 10, 3) := by decide +kernel
theorem dX7_doneShare_40 : decode cX7_doneShare 40 = .ok (.getfield 285, 3) := by decide +kernel
theorem dX7_doneShare_43 : decode cX7_doneShare 43 = .ok (.i2d, 1) := by decide +kernel
theorem dX7_doneShare_44 : decode cX7_doneShare 44 = .ok (.ddiv, 1) := by decide +kernel
theorem dX7_doneShare_45 : decode cX7_doneShare 45 = .ok (.dreturn, 1) := by decide +kernel
theorem dX7_digest_0 : decode cX7_digest 0 = .ok (.ldc2_w 294, 3) := by decide +kernel
theorem dX7_digest_3 : decode cX7_digest 3 = .ok (.lstore_n 1, 1) := by decide +kernel
theorem dX7_digest_4 : decode cX7_digest 4 = .ok (.iconst 0, 1) := by decide +kernel
theorem dX7_digest_5 : decode cX7_digest 5 = .ok (.istore_n 3, 1) := by decide +kernel
theorem dX7_digest_6 : decode cX7_digest 6 = .ok (.iload_n 3, 1) := by decide +kernel
theorem dX7_digest_7 : decode cX7_digest 7 = .ok (.bipush 12, 2) := by decide +kernel
theorem dX7_digest_9 : decode cX7_digest 9 = .ok (.if_icmp .gt 20, 3) := by decide +kernel
theorem dX7_digest_12 : decode cX7_digest 12 = .ok (.lload_n 1, 1) := by decide +kernel
theorem dX7_digest_13 : decode cX7_digest 13 = .ok (.aload_n 0, 1) := by decide +kernel
theorem dX7_digest_14 : decode cX7_digest 14 = .ok (.iload_n 3, 1) := by decide +kernel
theorem dX7_digest_15 : decode cX7_digest 15 = .ok (.invokevirtual 296, 3) := by decide +kernel
theorem dX7_digest_18 : decode cX7_digest 18 = .ok (.i2l, 1) := by decide +kernel
theorem dX7_digest_19 : decode cX7_digest 19 = .ok (.invokestatic 298, 3) := by decide +kernel
theorem dX7_digest_22 : decode cX7_digest 22 = .ok (.lstore_n 1, 1) := by decide +kernel
theorem dX7_digest_23 : decode cX7_digest 23 = .ok (.iinc 3 1, 3) := by decide +kernel
theorem dX7_digest_26 : decode cX7_digest 26 = .ok (.goto (-20), 3) := by decide +kernel
theorem dX7_digest_29 : decode cX7_digest 29 = .ok (.iconst 0, 1) := by decide +kernel
theorem dX7_digest_30 : decode cX7_digest 30 = .ok (.istore_n 3, 1) := by decide +kernel
theorem dX7_digest_31 : decode cX7_digest 31 = .ok (.iload_n 3, 1) := by decide +kernel
theorem dX7_digest_32 : decode cX7_digest 32 = .ok (.aload_n 0, 1) := by decide +kernel
theorem dX7_digest_33 : decode cX7_digest 33 = .ok (.getfield 10, 3) := by decide +kernel
theorem dX7_digest_36 : decode cX7_digest 36 = .ok (.getfield 130, 3) := by decide +kernel
theorem dX7_digest_39 : decode cX7_digest 39 = .ok (.arraylength, 1) := by decide +kernel
theorem dX7_digest_40 : decode cX7_digest 40 = .ok (.if_icmp .ge 24, 3) := by decide +kernel
theorem dX7_digest_43 : decode cX7_digest 43 = .ok (.lload_n 1, 1) := by decide +kernel
theorem dX7_digest_44 : decode cX7_digest 44 = .ok (.aload_n 0, 1) := by decide +kernel
theorem dX7_digest_45 : decode cX7_digest 45 = .ok (.getfield 10, 3) := by decide +kernel
theorem dX7_digest_48 : decode cX7_digest 48 = .ok (.getfield 130, 3) := by decide +kernel
theorem dX7_digest_51 : decode cX7_digest 51 = .ok (.iload_n 3, 1) := by decide +kernel
theorem dX7_digest_52 : decode cX7_digest 52 = .ok (.iaload, 1) := by decide +kernel
theorem dX7_digest_53 : decode cX7_digest 53 = .ok (.i2l, 1) := by decide +kernel
theorem dX7_digest_54 : decode cX7_digest 54 = .ok (.invokestatic 298, 3) := by decide +kernel
theorem dX7_digest_57 : decode cX7_digest 57 = .ok (.lstore_n 1, 1) := by decide +kernel
theorem dX7_digest_58 : decode cX7_digest 58 = .ok (.iinc 3 1, 3) := by decide +kernel
theorem dX7_digest_61 : decode cX7_digest 61 = .ok (.goto (-30), 3) := by decide +kernel
theorem dX7_digest_64 : decode cX7_digest 64 = .ok (.aload_n 0, 1) := by decide +kernel
theorem dX7_digest_65 : decode cX7_digest 65 = .ok (.bipush 60, 2) := by decide +kernel
theorem dX7_digest_67 : decode cX7_digest 67 = .ok (.invokevirtual 257, 3) := by decide +kernel
theorem dX7_digest_70 : decode cX7_digest 70 = .ok (.aload_n 0, 1) := by decide +kernel
theorem dX7_digest_71 : decode cX7_digest 71 = .ok (.lload_n 1, 1) := by decide +kernel
theorem dX7_digest_72 : decode cX7_digest 72 = .ok (.invokevirtual 302, 3) := by decide +kernel
theorem dX7_digest_75 : decode cX7_digest 75 = .ok (.lstore_n 1, 1) := by decide +kernel
theorem dX7_digest_76 : decode cX7_digest 76 = .ok (.aload_n 0, 1) := by decide +kernel
theorem dX7_digest_77 : decode cX7_digest 77 = .ok (.lload_n 1, 1) := by decide +kernel
theorem dX7_digest_78 : decode cX7_digest 78 = .ok (.invokevirtual 306, 3) := by decide +kernel
theorem dX7_digest_81 : decode cX7_digest 81 = .ok (.lstore_n 1, 1) := by decide +kernel
theorem dX7_digest_82 : decode cX7_digest 82 = .ok (.lload_n 1, 1) := by decide +kernel
theorem dX7_digest_83 : decode cX7_digest 83 = .ok (.aload_n 0, 1) := by decide +kernel
theorem dX7_digest_84 : decode cX7_digest 84 = .ok (.invokevirtual 309, 3) := by decide +kernel
theorem dX7_digest_87 : decode cX7_digest 87 = .ok (.i2l, 1) := by decide +kernel
theorem dX7_digest_88 : decode cX7_digest 88 = .ok (.invokestatic 298, 3) := by decide +kernel
theorem dX7_digest_91 : decode cX7_digest 91 = .ok (.lstore_n 1, 1) := by decide +kernel
theorem dX7_digest_92 : decode cX7_digest 92 = .ok (.iconst 0, 1) := by decide +kernel
theorem dX7_digest_93 : decode cX7_digest 93 = .ok (.istore_n 3, 1) := by decide +kernel
theorem dX7_digest_94 : decode cX7_digest 94 = .ok (.iload_n 3, 1) := by decide +kernel
theorem dX7_digest_95 : decode cX7_digest 95 = .ok (.iconst 3, 1) := by decide +kernel
theorem dX7_digest_96 : decode cX7_digest 96 = .ok (.if_icmp .ge 26, 3) := by decide +kernel
theorem dX7_digest_99 : decode cX7_digest 99 = .ok (.lload_n 1, 1) := by decide +kernel
theorem dX7_digest_100 : decode cX7_digest 100 = .ok (.aload_n 0, 1) := by decide +kernel
theorem dX7_digest_101 : decode cX7_digest 101 = .ok (.getfield 10, 3) := by decide +kernel
theorem dX7_digest_104 : decode cX7_digest 104 = .ok (.getfield 64, 3) := by decide +kernel
theorem dX7_digest_107 : decode cX7_digest 107 = .ok (.iload_n 3, 1) := by decide +kernel
theorem dX7_digest_108 : decode cX7_digest 108 = .ok (.invokevirtual 282, 3) := by decide +kernel
theorem dX7_digest_111 : decode cX7_digest 111 = .ok (.i2l, 1) := by decide +kernel
theorem dX7_digest_112 : decode cX7_digest 112 = .ok (.invokestatic 298, 3) := by decide +kernel
theorem dX7_digest_115 : decode cX7_digest 115 = .ok (.lstore_n 1, 1) := by decide +kernel
theorem dX7_digest_116 : decode cX7_digest 116 = .ok (.iinc 3 1, 3) := by decide +kernel
theorem dX7_digest_119 : decode cX7_digest 119 = .ok (.goto (-25), 3) := by decide +kernel
theorem dX7_digest_122 : decode cX7_digest 122 = .ok (.lload_n 1, 1) := by decide +kernel
theorem dX7_digest_123 : decode cX7_digest 123 = .ok (.aload_n 0, 1) := by decide +kernel
theorem dX7_digest_124 : decode cX7_digest 124 = .ok (.invokevirtual 312, 3) := by decide +kernel
theorem dX7_digest_127 : decode cX7_digest 127 = .ok (.invokestatic 316, 3) := by decide +kernel
theorem dX7_digest_130 : decode cX7_digest 130 = .ok (.invokestatic 298, 3) := by decide +kernel
theorem dX7_digest_133 : decode cX7_digest 133 = .ok (.lstore_n 1, 1) := by decide +kernel
theorem dX7_digest_134 : decode cX7_digest 134 = .ok (.aload_n 0, 1) := by decide +kernel
theorem dX7_digest_135 : decode cX7_digest 135 = .ok (.getfield 29, 3) := by decide +kernel
theorem dX7_digest_138 : decode cX7_digest 138 = .ok (.lload_n 1, 1) := by decide +kernel
theorem dX7_digest_139 : decode cX7_digest 139 = .ok (.invokevirtual 320, 3) := by decide +kernel
theorem dX7_digest_142 : decode cX7_digest 142 = .ok (.lreturn, 1) := by decide +kernel
theorem dX7_within_0 : decode cX7_within 0 = .ok (.iload_n 0, 1) := by decide +kernel
theorem dX7_within_1 : decode cX7_within 1 = .ok (.iload_n 1, 1) := by decide +kernel
theorem dX7_within_2 : decode cX7_within 2 = .ok (.if_icmp .lt 12, 3) := by decide +kernel
theorem dX7_within_5 : decode cX7_within 5 = .ok (.iload_n 0, 1) := by decide +kernel
theorem dX7_within_6 : decode cX7_within 6 = .ok (.iload_n 2, 1) := by decide +kernel
theorem dX7_within_7 : decode cX7_within 7 = .ok (.if_icmp .gt 7, 3) := by decide +kernel
theorem dX7_within_10 : decode cX7_within 10 = .ok (.iconst 1, 1) := by decide +kernel
theorem dX7_within_11 : decode cX7_within 11 = .ok (.goto 4, 3) := by decide +kernel
theorem dX7_within_14 : decode cX7_within 14 = .ok (.iconst 0, 1) := by decide +kernel
theorem dX7_within_15 : decode cX7_within 15 = .ok (.ireturn, 1) := by decide +kernel
theorem dX7_isSetting_0 : decode cX7_isSetting 0 = .ok (.iload_n 0, 1) := by decide +kernel
theorem dX7_isSetting_1 : decode cX7_isSetting 1 = .ok (.ifCond .lt 15, 3) := by decide +kernel
theorem dX7_isSetting_4 : decode cX7_isSetting 4 = .ok (.iload_n 0, 1) := by decide +kernel
theorem dX7_isSetting_5 : decode cX7_isSetting 5 = .ok (.getstatic 323, 3) := by decide +kernel
theorem dX7_isSetting_8 : decode cX7_isSetting 8 = .ok (.arraylength, 1) := by decide +kernel
theorem dX7_isSetting_9 : decode cX7_isSetting 9 = .ok (.if_icmp .ge 7, 3) := by decide +kernel
theorem dX7_isSetting_12 : decode cX7_isSetting 12 = .ok (.iconst 1, 1) := by decide +kernel
theorem dX7_isSetting_13 : decode cX7_isSetting 13 = .ok (.goto 4, 3) := by decide +kernel
theorem dX7_isSetting_16 : decode cX7_isSetting 16 = .ok (.iconst 0, 1) := by decide +kernel
theorem dX7_isSetting_17 : decode cX7_isSetting 17 = .ok (.ireturn, 1) := by decide +kernel
theorem dX7_nameInterpreters_0 : decode cX7_nameInterpreters 0 = .ok (.aload_n 0, 1) := by decide +kernel
theorem dX7_nameInterpreters_1 : decode cX7_nameInterpreters 1 = .ok (.getfield 10, 3) := by decide +kernel
theorem dX7_nameInterpreters_4 : decode cX7_nameInterpreters 4 = .ok (.getfield 64, 3) := by decide +kernel
theorem dX7_nameInterpreters_7 : decode cX7_nameInterpreters 7 = .ok (.iload_n 1, 1) := by decide +kernel
theorem dX7_nameInterpreters_8 : decode cX7_nameInterpreters 8 = .ok (.invokevirtual 105, 3) := by decide +kernel
theorem dX7_nameInterpreters_11 : decode cX7_nameInterpreters 11 = .ok (.ifCond .eq 45, 3) := by decide +kernel
theorem dX7_nameInterpreters_14 : decode cX7_nameInterpreters 14 = .ok (.iload_n 2, 1) := by decide +kernel
theorem dX7_nameInterpreters_15 : decode cX7_nameInterpreters 15 = .ok (.iconst (-1), 1) := by decide +kernel
theorem dX7_nameInterpreters_16 : decode cX7_nameInterpreters 16 = .ok (.if_icmp .eq 17, 3) := by decide +kernel
theorem dX7_nameInterpreters_19 : decode cX7_nameInterpreters 19 = .ok (.aload_n 0, 1) := by decide +kernel
theorem dX7_nameInterpreters_20 : decode cX7_nameInterpreters 20 = .ok (.getfield 10, 3) := by decide +kernel
theorem dX7_nameInterpreters_23 : decode cX7_nameInterpreters 23 = .ok (.getfield 64, 3) := by decide +kernel
theorem dX7_nameInterpreters_26 : decode cX7_nameInterpreters 26 = .ok (.iload_n 2, 1) := by decide +kernel
theorem dX7_nameInterpreters_27 : decode cX7_nameInterpreters 27 = .ok (.invokevirtual 105, 3) := by decide +kernel
theorem dX7_nameInterpreters_30 : decode cX7_nameInterpreters 30 = .ok (.ifCond .eq 26, 3) := by decide +kernel
theorem dX7_nameInterpreters_33 : decode cX7_nameInterpreters 33 = .ok (.iload_n 3, 1) := by decide +kernel
theorem dX7_nameInterpreters_34 : decode cX7_nameInterpreters 34 = .ok (.iconst (-1), 1) := by decide +kernel
theorem dX7_nameInterpreters_35 : decode cX7_nameInterpreters 35 = .ok (.if_icmp .eq 17, 3) := by decide +kernel
theorem dX7_nameInterpreters_38 : decode cX7_nameInterpreters 38 = .ok (.aload_n 0, 1) := by decide +kernel
theorem dX7_nameInterpreters_39 : decode cX7_nameInterpreters 39 = .ok (.getfield 10, 3) := by decide +kernel
theorem dX7_nameInterpreters_42 : decode cX7_nameInterpreters 42 = .ok (.getfield 64, 3) := by decide +kernel
theorem dX7_nameInterpreters_45 : decode cX7_nameInterpreters 45 = .ok (.iload_n 3, 1) := by decide +kernel
theorem dX7_nameInterpreters_46 : decode cX7_nameInterpreters 46 = .ok (.invokevirtual 105, 3) := by decide +kernel
theorem dX7_nameInterpreters_49 : decode cX7_nameInterpreters 49 = .ok (.ifCond .eq 7, 3) := by decide +kernel
theorem dX7_nameInterpreters_52 : decode cX7_nameInterpreters 52 = .ok (.iconst 1, 1) := by decide +kernel
theorem dX7_nameInterpreters_53 : decode cX7_nameInterpreters 53 = .ok (.goto 4, 3) := by decide +kernel
theorem dX7_nameInterpreters_56 : decode cX7_nameInterpreters 56 = .ok (.iconst 0, 1) := by decide +kernel
theorem dX7_nameInterpreters_57 : decode cX7_nameInterpreters 57 = .ok (.ireturn, 1) := by decide +kernel
theorem dX7_areRowOfDifferent_0 : decode cX7_areRowOfDifferent 0 = .ok (.iload_n 1, 1) := by decide +kernel
theorem dX7_areRowOfDifferent_1 : decode cX7_areRowOfDifferent 1 = .ok (.iconst (-1), 1) := by decide +kernel
theorem dX7_areRowOfDifferent_2 : decode cX7_areRowOfDifferent 2 = .ok (.if_icmp .ne 14, 3) := by decide +kernel
theorem dX7_areRowOfDifferent_5 : decode cX7_areRowOfDifferent 5 = .ok (.iload_n 2, 1) := by decide +kernel
theorem dX7_areRowOfDifferent_6 : decode cX7_areRowOfDifferent 6 = .ok (.iconst (-1), 1) := by decide +kernel
theorem dX7_areRowOfDifferent_7 : decode cX7_areRowOfDifferent 7 = .ok (.if_icmp .ne 7, 3) := by decide +kernel
theorem dX7_areRowOfDifferent_10 : decode cX7_areRowOfDifferent 10 = .ok (.iconst 1, 1) := by decide +kernel
theorem dX7_areRowOfDifferent_11 : decode cX7_areRowOfDifferent 11 = .ok (.goto 4, 3) := by decide +kernel
theorem dX7_areRowOfDifferent_14 : decode cX7_areRowOfDifferent 14 = .ok (.iconst 0, 1) := by decide +kernel
theorem dX7_areRowOfDifferent_15 : decode cX7_areRowOfDifferent 15 = .ok (.ireturn, 1) := by decide +kernel
theorem dX7_areRowOfDifferent_16 : decode cX7_areRowOfDifferent 16 = .ok (.iload_n 0, 1) := by decide +kernel
theorem dX7_areRowOfDifferent_17 : decode cX7_areRowOfDifferent 17 = .ok (.iload_n 1, 1) := by decide +kernel
theorem dX7_areRowOfDifferent_18 : decode cX7_areRowOfDifferent 18 = .ok (.if_icmp .eq 17, 3) := by decide +kernel
theorem dX7_areRowOfDifferent_21 : decode cX7_areRowOfDifferent 21 = .ok (.iload_n 0, 1) := by decide +kernel
theorem dX7_areRowOfDifferent_22 : decode cX7_areRowOfDifferent 22 = .ok (.iload_n 2, 1) := by decide +kernel
theorem dX7_areRowOfDifferent_23 : decode cX7_areRowOfDifferent 23 = .ok (.if_icmp .eq 12, 3) := by decide +kernel
theorem dX7_areRowOfDifferent_26 : decode cX7_areRowOfDifferent 26 = .ok (.iload_n 1, 1) := by decide +kernel
theorem dX7_areRowOfDifferent_27 : decode cX7_areRowOfDifferent 27 = .ok (.iload_n 2, 1) := by decide +kernel
theorem dX7_areRowOfDifferent_28 : decode cX7_areRowOfDifferent 28 = .ok (.if_icmp .eq 7, 3) := by decide +kernel
theorem dX7_areRowOfDifferent_31 : decode cX7_areRowOfDifferent 31 = .ok (.iconst 1, 1) := by decide +kernel
theorem dX7_areRowOfDifferent_32 : decode cX7_areRowOfDifferent 32 = .ok (.goto 4, 3) := by decide +kernel
theorem dX7_areRowOfDifferent_35 : decode cX7_areRowOfDifferent 35 = .ok (.iconst 0, 1) := by decide +kernel
theorem dX7_areRowOfDifferent_36 : decode cX7_areRowOfDifferent 36 = .ok (.ireturn, 1) := by decide +kernel
theorem dX7_imagineLater_0 : decode cX7_imagineLater 0 = .ok (.aload_n 0, 1) := by decide +kernel
theorem dX7_imagineLater_1 : decode cX7_imagineLater 1 = .ok (.getfield 16, 3) := by decide +kernel
theorem dX7_imagineLater_4 : decode cX7_imagineLater 4 = .ok (.aload_n 0, 1) := by decide +kernel
theorem dX7_imagineLater_5 : decode cX7_imagineLater 5 = .ok (.getfield 10, 3) := by decide +kernel
theorem dX7_imagineLater_8 : decode cX7_imagineLater 8 = .ok (.invokevirtual 266, 3) := by decide +kernel
theorem dX7_imagineLater_11 : decode cX7_imagineLater 11 = .ok (.iconst 0, 1) := by decide +kernel
theorem dX7_imagineLater_12 : decode cX7_imagineLater 12 = .ok (.istore_n 2, 1) := by decide +kernel
theorem dX7_imagineLater_13 : decode cX7_imagineLater 13 = .ok (.iload_n 2, 1) := by decide +kernel
theorem dX7_imagineLater_14 : decode cX7_imagineLater 14 = .ok (.iload_n 1, 1) := by decide +kernel
theorem dX7_imagineLater_15 : decode cX7_imagineLater 15 = .ok (.if_icmp .ge 17, 3) := by decide +kernel
theorem dX7_imagineLater_18 : decode cX7_imagineLater 18 = .ok (.aload_n 0, 1) := by decide +kernel
theorem dX7_imagineLater_19 : decode cX7_imagineLater 19 = .ok (.getfield 16, 3) := by decide +kernel
theorem dX7_imagineLater_22 : decode cX7_imagineLater 22 = .ok (.invokevirtual 193, 3) := by decide +kernel
theorem dX7_imagineLater_25 : decode cX7_imagineLater 25 = .ok (.pop, 1) := by decide +kernel
theorem dX7_imagineLater_26 : decode cX7_imagineLater 26 = .ok (.iinc 2 1, 3) := by decide +kernel
theorem dX7_imagineLater_29 : decode cX7_imagineLater 29 = .ok (.goto (-16), 3) := by decide +kernel
theorem dX7_imagineLater_32 : decode cX7_imagineLater 32 = .ok (.return_, 1) := by decide +kernel
theorem dX7_bitOf_0 : decode cX7_bitOf 0 = .ok (.iload_n 0, 1) := by decide +kernel
theorem dX7_bitOf_1 : decode cX7_bitOf 1 = .ok (.ifCond .ge 7, 3) := by decide +kernel
theorem dX7_bitOf_4 : decode cX7_bitOf 4 = .ok (.iconst 0, 1) := by decide +kernel
theorem dX7_bitOf_5 : decode cX7_bitOf 5 = .ok (.goto 6, 3) := by decide +kernel
theorem dX7_bitOf_8 : decode cX7_bitOf 8 = .ok (.iconst 1, 1) := by decide +kernel
theorem dX7_bitOf_9 : decode cX7_bitOf 9 = .ok (.iload_n 0, 1) := by decide +kernel
theorem dX7_bitOf_10 : decode cX7_bitOf 10 = .ok (.ishl, 1) := by decide +kernel
theorem dX7_bitOf_11 : decode cX7_bitOf 11 = .ok (.ireturn, 1) := by decide +kernel
theorem dX7_maskOf_0 : decode cX7_maskOf 0 = .ok (.iload_n 0, 1) := by decide +kernel
theorem dX7_maskOf_1 : decode cX7_maskOf 1 = .ok (.invokestatic 326, 3) := by decide +kernel
theorem dX7_maskOf_4 : decode cX7_maskOf 4 = .ok (.iload_n 1, 1) := by decide +kernel
theorem dX7_maskOf_5 : decode cX7_maskOf 5 = .ok (.invokestatic 326, 3) := by decide +kernel
theorem dX7_maskOf_8 : decode cX7_maskOf 8 = .ok (.ior, 1) := by decide +kernel
theorem dX7_maskOf_9 : decode cX7_maskOf 9 = .ok (.iload_n 2, 1) := by decide +kernel
theorem dX7_maskOf_10 : decode cX7_maskOf 10 = .ok (.invokestatic 326, 3) := by decide +kernel
theorem dX7_maskOf_13 : decode cX7_maskOf 13 = .ok (.ior, 1) := by decide +kernel
theorem dX7_maskOf_14 : decode cX7_maskOf 14 = .ok (.ireturn, 1) := by decide +kernel
theorem dX7_mix_0 : decode cX7_mix 0 = .ok (.ldc2_w 329, 3) := by decide +kernel
theorem dX7_mix_3 : decode cX7_mix 3 = .ok (.lload_n 0, 1) := by decide +kernel
theorem dX7_mix_4 : decode cX7_mix 4 = .ok (.lmul, 1) := by decide +kernel
theorem dX7_mix_5 : decode cX7_mix 5 = .ok (.lload_n 2, 1) := by decide +kernel
theorem dX7_mix_6 : decode cX7_mix 6 = .ok (.ladd, 1) := by decide +kernel
theorem dX7_mix_7 : decode cX7_mix 7 = .ok (.lreturn, 1) := by decide +kernel
theorem dX7_mixInterpreters_0 : decode cX7_mixInterpreters 0 = .ok (.lload_n 1, 1) := by decide +kernel
theorem dX7_mixInterpreters_1 : decode cX7_mixInterpreters 1 = .ok (.lstore_n 3, 1) := by decide +kernel
theorem dX7_mixInterpreters_2 : decode cX7_mixInterpreters 2 = .ok (.iconst 0, 1) := by decide +kernel
theorem dX7_mixInterpreters_3 : decode cX7_mixInterpreters 3 = .ok (.istore 5, 2) := by decide +kernel
theorem dX7_mixInterpreters_5 : decode cX7_mixInterpreters 5 = .ok (.iload 5, 2) := by decide +kernel
theorem dX7_mixInterpreters_7 : decode cX7_mixInterpreters 7 = .ok (.aload_n 0, 1) := by decide +kernel
theorem dX7_mixInterpreters_8 : decode cX7_mixInterpreters 8 = .ok (.getfield 10, 3) := by decide +kernel
theorem dX7_mixInterpreters_11 : decode cX7_mixInterpreters 11 = .ok (.getfield 64, 3) := by decide +kernel
theorem dX7_mixInterpreters_14 : decode cX7_mixInterpreters 14 = .ok (.getfield 68, 3) := by decide +kernel
theorem dX7_mixInterpreters_17 : decode cX7_mixInterpreters 17 = .ok (.if_icmp .ge 61, 3) := by decide +kernel
theorem dX7_mixInterpreters_20 : decode cX7_mixInterpreters 20 = .ok (.iconst 0, 1) := by decide +kernel
theorem dX7_mixInterpreters_21 : decode cX7_mixInterpreters 21 = .ok (.istore 6, 2) := by decide +kernel
theorem dX7_mixInterpreters_23 : decode cX7_mixInterpreters 23 = .ok (.iload 6, 2) := by decide +kernel
theorem dX7_mixInterpreters_25 : decode cX7_mixInterpreters 25 = .ok (.bipush 7, 2) := by decide +kernel
theorem dX7_mixInterpreters_27 : decode cX7_mixInterpreters 27 = .ok (.if_icmp .gt 26, 3) := by decide +kernel
theorem dX7_mixInterpreters_30 : decode cX7_mixInterpreters 30 = .ok (.lload_n 3, 1) := by decide +kernel
theorem dX7_mixInterpreters_31 : decode cX7_mixInterpreters 31 = .ok (.aload_n 0, 1) := by decide +kernel
theorem dX7_mixInterpreters_32 : decode cX7_mixInterpreters 32 = .ok (.getfield 10, 3) := by decide +kernel
theorem dX7_mixInterpreters_35 : decode cX7_mixInterpreters 35 = .ok (.iload 5, 2) := by decide +kernel
theorem dX7_mixInterpreters_37 : decode cX7_mixInterpreters 37 = .ok (.iload 6, 2) := by decide +kernel
theorem dX7_mixInterpreters_39 : decode cX7_mixInterpreters 39 = .ok (.invokevirtual 235, 3) := by decide +kernel
theorem dX7_mixInterpreters_42 : decode cX7_mixInterpreters 42 = .ok (.i2l, 1) := by decide +kernel
theorem dX7_mixInterpreters_43 : decode cX7_mixInterpreters 43 = .ok (.invokestatic 298, 3) := by decide +kernel
theorem dX7_mixInterpreters_46 : decode cX7_mixInterpreters 46 = .ok (.lstore_n 3, 1) := by decide +kernel
theorem dX7_mixInterpreters_47 : decode cX7_mixInterpreters 47 = .ok (.iinc 6 1, 3) := by decide +kernel
theorem dX7_mixInterpreters_50 : decode cX7_mixInterpreters 50 = .ok (.goto (-27), 3) := by decide +kernel
theorem dX7_mixInterpreters_53 : decode cX7_mixInterpreters 53 = .ok (.lload_n 3, 1) := by decide +kernel
theorem dX7_mixInterpreters_54 : decode cX7_mixInterpreters 54 = .ok (.aload_n 0, 1) := by decide +kernel
theorem dX7_mixInterpreters_55 : decode cX7_mixInterpreters 55 = .ok (.getfield 16, 3) := by decide +kernel
theorem dX7_mixInterpreters_58 : decode cX7_mixInterpreters 58 = .ok (.getfield 64, 3) := by decide +kernel
theorem dX7_mixInterpreters_61 : decode cX7_mixInterpreters 61 = .ok (.getfield 260, 3) := by decide +kernel
theorem dX7_mixInterpreters_64 : decode cX7_mixInterpreters 64 = .ok (.iload 5, 2) := by decide +kernel
theorem dX7_mixInterpreters_66 : decode cX7_mixInterpreters 66 = .ok (.iaload, 1) := by decide +kernel
theorem dX7_mixInterpreters_67 : decode cX7_mixInterpreters 67 = .ok (.i2l, 1) := by decide +kernel
theorem dX7_mixInterpreters_68 : decode cX7_mixInterpreters 68 = .ok (.invokestatic 298, 3) := by decide +kernel
theorem dX7_mixInterpreters_71 : decode cX7_mixInterpreters 71 = .ok (.lstore_n 3, 1) := by decide +kernel
theorem dX7_mixInterpreters_72 : decode cX7_mixInterpreters 72 = .ok (.iinc 5 1, 3) := by decide +kernel
theorem dX7_mixInterpreters_75 : decode cX7_mixInterpreters 75 = .ok (.goto (-70), 3) := by decide +kernel
theorem dX7_mixInterpreters_78 : decode cX7_mixInterpreters 78 = .ok (.lload_n 3, 1) := by decide +kernel
theorem dX7_mixInterpreters_79 : decode cX7_mixInterpreters 79 = .ok (.lreturn, 1) := by decide +kernel
theorem dX7_mixHearings_0 : decode cX7_mixHearings 0 = .ok (.lload_n 1, 1) := by decide +kernel
theorem dX7_mixHearings_1 : decode cX7_mixHearings 1 = .ok (.lstore_n 3, 1) := by decide +kernel
theorem dX7_mixHearings_2 : decode cX7_mixHearings 2 = .ok (.iconst 0, 1) := by decide +kernel
theorem dX7_mixHearings_3 : decode cX7_mixHearings 3 = .ok (.istore 5, 2) := by decide +kernel
theorem dX7_mixHearings_5 : decode cX7_mixHearings 5 = .ok (.iload 5, 2) := by decide +kernel
theorem dX7_mixHearings_7 : decode cX7_mixHearings 7 = .ok (.aload_n 0, 1) := by decide +kernel
theorem dX7_mixHearings_8 : decode cX7_mixHearings 8 = .ok (.getfield 10, 3) := by decide +kernel
theorem dX7_mixHearings_11 : decode cX7_mixHearings 11 = .ok (.getfield 89, 3) := by decide +kernel
theorem dX7_mixHearings_14 : decode cX7_mixHearings 14 = .ok (.getfield 93, 3) := by decide +kernel
theorem dX7_mixHearings_17 : decode cX7_mixHearings 17 = .ok (.if_icmp .ge 101, 3) := by decide +kernel
theorem dX7_mixHearings_20 : decode cX7_mixHearings 20 = .ok (.iconst 0, 1) := by decide +kernel
theorem dX7_mixHearings_21 : decode cX7_mixHearings 21 = .ok (.istore 6, 2) := by decide +kernel
theorem dX7_mixHearings_23 : decode cX7_mixHearings 23 = .ok (.iload 6, 2) := by decide +kernel
theorem dX7_mixHearings_25 : decode cX7_mixHearings 25 = .ok (.bipush 11, 2) := by decide +kernel
theorem dX7_mixHearings_27 : decode cX7_mixHearings 27 = .ok (.if_icmp .gt 26, 3) := by decide +kernel
theorem dX7_mixHearings_30 : decode cX7_mixHearings 30 = .ok (.lload_n 3, 1) := by decide +kernel
theorem dX7_mixHearings_31 : decode cX7_mixHearings 31 = .ok (.aload_n 0, 1) := by decide +kernel
theorem dX7_mixHearings_32 : decode cX7_mixHearings 32 = .ok (.getfield 10, 3) := by decide +kernel
theorem dX7_mixHearings_35 : decode cX7_mixHearings 35 = .ok (.iload 5, 2) := by decide +kernel
theorem dX7_mixHearings_37 : decode cX7_mixHearings 37 = .ok (.iload 6, 2) := by decide +kernel
theorem dX7_mixHearings_39 : decode cX7_mixHearings 39 = .ok (.invokevirtual 240, 3) := by decide +kernel
theorem dX7_mixHearings_42 : decode cX7_mixHearings 42 = .ok (.i2l, 1) := by decide +kernel
theorem dX7_mixHearings_43 : decode cX7_mixHearings 43 = .ok (.invokestatic 298, 3) := by decide +kernel
theorem dX7_mixHearings_46 : decode cX7_mixHearings 46 = .ok (.lstore_n 3, 1) := by decide +kernel
theorem dX7_mixHearings_47 : decode cX7_mixHearings 47 = .ok (.iinc 6 1, 3) := by decide +kernel
theorem dX7_mixHearings_50 : decode cX7_mixHearings 50 = .ok (.goto (-27), 3) := by decide +kernel
theorem dX7_mixHearings_53 : decode cX7_mixHearings 53 = .ok (.aload_n 0, 1) := by decide +kernel
theorem dX7_mixHearings_54 : decode cX7_mixHearings 54 = .ok (.getfield 43, 3) := by decide +kernel
theorem dX7_mixHearings_57 : decode cX7_mixHearings 57 = .ok (.aload_n 0, 1) := by decide +kernel
theorem dX7_mixHearings_58 : decode cX7_mixHearings 58 = .ok (.getfield 10, 3) := by decide +kernel
theorem dX7_mixHearings_61 : decode cX7_mixHearings 61 = .ok (.iload 5, 2) := by decide +kernel
theorem dX7_mixHearings_63 : decode cX7_mixHearings 63 = .ok (.invokevirtual 250, 3) := by decide +kernel
theorem dX7_mixHearings_66 : decode cX7_mixHearings 66 = .ok (.iconst 0, 1) := by decide +kernel
theorem dX7_mixHearings_67 : decode cX7_mixHearings 67 = .ok (.istore 6, 2) := by decide +kernel
theorem dX7_mixHearings_69 : decode cX7_mixHearings 69 = .ok (.iload 6, 2) := by decide +kernel
theorem dX7_mixHearings_71 : decode cX7_mixHearings 71 = .ok (.iconst 4, 1) := by decide +kernel
theorem dX7_mixHearings_72 : decode cX7_mixHearings 72 = .ok (.if_icmp .gt 24, 3) := by decide +kernel
theorem dX7_mixHearings_75 : decode cX7_mixHearings 75 = .ok (.lload_n 3, 1) := by decide +kernel
theorem dX7_mixHearings_76 : decode cX7_mixHearings 76 = .ok (.aload_n 0, 1) := by decide +kernel
theorem dX7_mixHearings_77 : decode cX7_mixHearings 77 = .ok (.getfield 43, 3) := by decide +kernel
theorem dX7_mixHearings_80 : decode cX7_mixHearings 80 = .ok (.iload 6, 2) := by decide +kernel
theorem dX7_mixHearings_82 : decode cX7_mixHearings 82 = .ok (.invokevirtual 254, 3) := by decide +kernel
theorem dX7_mixHearings_85 : decode cX7_mixHearings 85 = .ok (.i2l, 1) := by decide +kernel
theorem dX7_mixHearings_86 : decode cX7_mixHearings 86 = .ok (.invokestatic 298, 3) := by decide +kernel
theorem dX7_mixHearings_89 : decode cX7_mixHearings 89 = .ok (.lstore_n 3, 1) := by decide +kernel
theorem dX7_mixHearings_90 : decode cX7_mixHearings 90 = .ok (.iinc 6 1, 3) := by decide +kernel
theorem dX7_mixHearings_93 : decode cX7_mixHearings 93 = .ok (.goto (-24), 3) := by decide +kernel
theorem dX7_mixHearings_96 : decode cX7_mixHearings 96 = .ok (.lload_n 3, 1) := by decide +kernel
theorem dX7_mixHearings_97 : decode cX7_mixHearings 97 = .ok (.aload_n 0, 1) := by decide +kernel
theorem dX7_mixHearings_98 : decode cX7_mixHearings 98 = .ok (.getfield 10, 3) := by decide +kernel
theorem dX7_mixHearings_101 : decode cX7_mixHearings 101 = .ok (.iload 5, 2) := by decide +kernel
theorem dX7_mixHearings_103 : decode cX7_mixHearings 103 = .ok (.iconst 0, 1) := by decide +kernel
theorem dX7_mixHearings_104 : decode cX7_mixHearings 104 = .ok (.invokevirtual 263, 3) := by decide +kernel
theorem dX7_mixHearings_107 : decode cX7_mixHearings 107 = .ok (.i2l, 1) := by decide +kernel
theorem dX7_mixHearings_108 : decode cX7_mixHearings 108 = .ok (.invokestatic 298, 3) := by decide +kernel
theorem dX7_mixHearings_111 : decode cX7_mixHearings 111 = .ok (.lstore_n 3, 1) := by decide +kernel
theorem dX7_mixHearings_112 : decode cX7_mixHearings 112 = .ok (.iinc 5 1, 3) := by decide +kernel
theorem dX7_mixHearings_115 : decode cX7_mixHearings 115 = .ok (.goto (-110), 3) := by decide +kernel
theorem dX7_mixHearings_118 : decode cX7_mixHearings 118 = .ok (.lload_n 3, 1) := by decide +kernel
theorem dX7_mixHearings_119 : decode cX7_mixHearings 119 = .ok (.lreturn, 1) := by decide +kernel
theorem dX7_bitsOfShare_0 : decode cX7_bitsOfShare 0 = .ok (.dload_n 0, 1) := by decide +kernel
theorem dX7_bitsOfShare_1 : decode cX7_bitsOfShare 1 = .ok (.dconst 0, 1) := by decide +kernel
theorem dX7_bitsOfShare_2 : decode cX7_bitsOfShare 2 = .ok (.dcmp .g, 1) := by decide +kernel
theorem dX7_bitsOfShare_3 : decode cX7_bitsOfShare 3 = .ok (.ifCond .gt 5, 3) := by decide +kernel
theorem dX7_bitsOfShare_6 : decode cX7_bitsOfShare 6 = .ok (.lconst 0, 1) := by decide +kernel
theorem dX7_bitsOfShare_7 : decode cX7_bitsOfShare 7 = .ok (.lreturn, 1) := by decide +kernel
theorem dX7_bitsOfShare_8 : decode cX7_bitsOfShare 8 = .ok (.dload_n 0, 1) := by decide +kernel
theorem dX7_bitsOfShare_9 : decode cX7_bitsOfShare 9 = .ok (.dstore_n 2, 1) := by decide +kernel
theorem dX7_bitsOfShare_10 : decode cX7_bitsOfShare 10 = .ok (.ldc2_w 331, 3) := by decide +kernel
theorem dX7_bitsOfShare_13 : decode cX7_bitsOfShare 13 = .ok (.lstore 4, 2) := by decide +kernel
theorem dX7_bitsOfShare_15 : decode cX7_bitsOfShare 15 = .ok (.iconst 0, 1) := by decide +kernel
theorem dX7_bitsOfShare_16 : decode cX7_bitsOfShare 16 = .ok (.istore 6, 2) := by decide +kernel
theorem dX7_bitsOfShare_18 : decode cX7_bitsOfShare 18 = .ok (.iload 6, 2) := by decide +kernel
theorem dX7_bitsOfShare_20 : decode cX7_bitsOfShare 20 = .ok (.sipush 1000, 3) := by decide +kernel
theorem dX7_bitsOfShare_23 : decode cX7_bitsOfShare 23 = .ok (.if_icmp .ge 27, 3) := by decide +kernel
theorem dX7_bitsOfShare_26 : decode cX7_bitsOfShare 26 = .ok (.dload_n 2, 1) := by decide +kernel
theorem dX7_bitsOfShare_27 : decode cX7_bitsOfShare 27 = .ok (.dconst 1, 1) := by decide +kernel
theorem dX7_bitsOfShare_28 : decode cX7_bitsOfShare 28 = .ok (.dcmp .g, 1) := by decide +kernel
theorem dX7_bitsOfShare_29 : decode cX7_bitsOfShare 29 = .ok (.ifCond .ge 21, 3) := by decide +kernel
theorem dX7_bitsOfShare_32 : decode cX7_bitsOfShare 32 = .ok (.dload_n 2, 1) := by decide +kernel
theorem dX7_bitsOfShare_33 : decode cX7_bitsOfShare 33 = .ok (.ldc2_w 333, 3) := by decide +kernel
theorem dX7_bitsOfShare_36 : decode cX7_bitsOfShare 36 = .ok (.dmul, 1) := by decide +kernel
theorem dX7_bitsOfShare_37 : decode cX7_bitsOfShare 37 = .ok (.dstore_n 2, 1) := by decide +kernel
theorem dX7_bitsOfShare_38 : decode cX7_bitsOfShare 38 = .ok (.lload 4, 2) := by decide +kernel
theorem dX7_bitsOfShare_40 : decode cX7_bitsOfShare 40 = .ok (.lconst 1, 1) := by decide +kernel
theorem dX7_bitsOfShare_41 : decode cX7_bitsOfShare 41 = .ok (.lsub, 1) := by decide +kernel
theorem dX7_bitsOfShare_42 : decode cX7_bitsOfShare 42 = .ok (.lstore 4, 2) := by decide +kernel
theorem dX7_bitsOfShare_44 : decode cX7_bitsOfShare 44 = .ok (.iinc 6 1, 3) := by decide +kernel
theorem dX7_bitsOfShare_47 : decode cX7_bitsOfShare 47 = .ok (.goto (-29), 3) := by decide +kernel
theorem dX7_bitsOfShare_50 : decode cX7_bitsOfShare 50 = .ok (.dload_n 2, 1) := by decide +kernel
theorem dX7_bitsOfShare_51 : decode cX7_bitsOfShare 51 = .ok (.dconst 1, 1) := by decide +kernel
theorem dX7_bitsOfShare_52 : decode cX7_bitsOfShare 52 = .ok (.dsub, 1) := by decide +kernel
theorem dX7_bitsOfShare_53 : decode cX7_bitsOfShare 53 = .ok (.ldc2_w 335, 3) := by decide +kernel
theorem dX7_bitsOfShare_56 : decode cX7_bitsOfShare 56 = .ok (.dmul, 1) := by decide +kernel
theorem dX7_bitsOfShare_57 : decode cX7_bitsOfShare 57 = .ok (.d2l, 1) := by decide +kernel
theorem dX7_bitsOfShare_58 : decode cX7_bitsOfShare 58 = .ok (.lstore 6, 2) := by decide +kernel
theorem dX7_bitsOfShare_60 : decode cX7_bitsOfShare 60 = .ok (.lload 4, 2) := by decide +kernel
theorem dX7_bitsOfShare_62 : decode cX7_bitsOfShare 62 = .ok (.bipush 52, 2) := by decide +kernel
theorem dX7_bitsOfShare_64 : decode cX7_bitsOfShare 64 = .ok (.lshl, 1) := by decide +kernel
theorem dX7_bitsOfShare_65 : decode cX7_bitsOfShare 65 = .ok (.lload 6, 2) := by decide +kernel
theorem dX7_bitsOfShare_67 : decode cX7_bitsOfShare 67 = .ok (.lor, 1) := by decide +kernel
theorem dX7_bitsOfShare_68 : decode cX7_bitsOfShare 68 = .ok (.lreturn, 1) := by decide +kernel
theorem dX8_init_0 : decode cX8_init 0 = .ok (.aload_n 0, 1) := by decide +kernel
theorem dX8_init_1 : decode cX8_init 1 = .ok (.invokespecial 1, 3) := by decide +kernel
theorem dX8_init_4 : decode cX8_init 4 = .ok (.aload_n 0, 1) := by decide +kernel
theorem dX8_init_5 : decode cX8_init 5 = .ok (.sipush 373, 3) := by decide +kernel
theorem dX8_init_8 : decode cX8_init 8 = .ok (.newarray .int, 2) := by decide +kernel
theorem dX8_init_10 : decode cX8_init 10 = .ok (.putfield 7, 3) := by decide +kernel
theorem dX8_init_13 : decode cX8_init 13 = .ok (.aload_n 0, 1) := by decide +kernel
theorem dX8_init_14 : decode cX8_init 14 = .ok (.sipush 2238, 3) := by decide +kernel
theorem dX8_init_17 : decode cX8_init 17 = .ok (.newarray .int, 2) := by decide +kernel
theorem dX8_init_19 : decode cX8_init 19 = .ok (.putfield 13, 3) := by decide +kernel
theorem dX8_init_22 : decode cX8_init 22 = .ok (.aload_n 0, 1) := by decide +kernel
theorem dX8_init_23 : decode cX8_init 23 = .ok (.bipush 60, 2) := by decide +kernel
theorem dX8_init_25 : decode cX8_init 25 = .ok (.newarray .int, 2) := by decide +kernel
theorem dX8_init_27 : decode cX8_init 27 = .ok (.putfield 16, 3) := by decide +kernel
theorem dX8_init_30 : decode cX8_init 30 = .ok (.aload_n 0, 1) := by decide +kernel
theorem dX8_init_31 : decode cX8_init 31 = .ok (.iconst 3, 1) := by decide +kernel
theorem dX8_init_32 : decode cX8_init 32 = .ok (.newarray .int, 2) := by decide +kernel
theorem dX8_init_34 : decode cX8_init 34 = .ok (.putfield 19, 3) := by decide +kernel
theorem dX8_init_37 : decode cX8_init 37 = .ok (.aload_n 0, 1) := by decide +kernel
theorem dX8_init_38 : decode cX8_init 38 = .ok (.bipush 40, 2) := by decide +kernel
theorem dX8_init_40 : decode cX8_init 40 = .ok (.newarray .int, 2) := by decide +kernel
theorem dX8_init_42 : decode cX8_init 42 = .ok (.putfield 22, 3) := by decide +kernel
theorem dX8_init_45 : decode cX8_init 45 = .ok (.aload_n 0, 1) := by decide +kernel
theorem dX8_init_46 : decode cX8_init 46 = .ok (.iconst 3, 1) := by decide +kernel
theorem dX8_init_47 : decode cX8_init 47 = .ok (.newarray .int, 2) := by decide +kernel
theorem dX8_init_49 : decode cX8_init 49 = .ok (.putfield 25, 3) := by decide +kernel
theorem dX8_init_52 : decode cX8_init 52 = .ok (.aload_n 0, 1) := by decide +kernel
theorem dX8_init_53 : decode cX8_init 53 = .ok (.sipush 373, 3) := by decide +kernel
theorem dX8_init_56 : decode cX8_init 56 = .ok (.newarray .int, 2) := by decide +kernel
theorem dX8_init_58 : decode cX8_init 58 = .ok (.putfield 28, 3) := by decide +kernel
theorem dX8_init_61 : decode cX8_init 61 = .ok (.aload_n 0, 1) := by decide +kernel
theorem dX8_init_62 : decode cX8_init 62 = .ok (.getfield 7, 3) := by decide +kernel
theorem dX8_init_65 : decode cX8_init 65 = .ok (.iconst 0, 1) := by decide +kernel
theorem dX8_init_66 : decode cX8_init 66 = .ok (.iconst 2, 1) := by decide +kernel
theorem dX8_init_67 : decode cX8_init 67 = .ok (.iastore, 1) := by decide +kernel
theorem dX8_init_68 : decode cX8_init 68 = .ok (.aload_n 0, 1) := by decide +kernel
theorem dX8_init_69 : decode cX8_init 69 = .ok (.getfield 7, 3) := by decide +kernel
theorem dX8_init_72 : decode cX8_init 72 = .ok (.iconst 1, 1) := by decide +kernel
theorem dX8_init_73 : decode cX8_init 73 = .ok (.iconst 1, 1) := by decide +kernel
theorem dX8_init_74 : decode cX8_init 74 = .ok (.iastore, 1) := by decide +kernel
theorem dX8_init_75 : decode cX8_init 75 = .ok (.aload_n 0, 1) := by decide +kernel
theorem dX8_init_76 : decode cX8_init 76 = .ok (.getfield 7, 3) := by decide +kernel
theorem dX8_init_79 : decode cX8_init 79 = .ok (.iconst 2, 1) := by decide +kernel
theorem dX8_init_80 : decode cX8_init 80 = .ok (.iconst 1, 1) := by decide +kernel
theorem dX8_init_81 : decode cX8_init 81 = .ok (.iastore, 1) := by decide +kernel
theorem dX8_init_82 : decode cX8_init 82 = .ok (.aload_n 0, 1) := by decide +kernel
theorem dX8_init_83 : decode cX8_init 83 = .ok (.getfield 7, 3) := by decide +kernel
theorem dX8_init_86 : decode cX8_init 86 = .ok (.iconst 3, 1) := by decide +kernel
theorem dX8_init_87 : decode cX8_init 87 = .ok (.sipush 600, 3) := by decide +kernel
theorem dX8_init_90 : decode cX8_init 90 = .ok (.iastore, 1) := by decide +kernel
theorem dX8_init_91 : decode cX8_init 91 = .ok (.aload_n 0, 1) := by decide +kernel
theorem dX8_init_92 : decode cX8_init 92 = .ok (.getfield 7, 3) := by decide +kernel
theorem dX8_init_95 : decode cX8_init 95 = .ok (.iconst 4, 1) := by decide +kernel
theorem dX8_init_96 : decode cX8_init 96 = .ok (.bipush 60, 2) := by decide +kernel
theorem dX8_init_98 : decode cX8_init 98 = .ok (.iastore, 1) := by decide +kernel
theorem dX8_init_99 : decode cX8_init 99 = .ok (.aload_n 0, 1) := by decide +kernel
theorem dX8_init_100 : decode cX8_init 100 = .ok (.getfield 7, 3) := by decide +kernel
theorem dX8_init_103 : decode cX8_init 103 = .ok (.iconst 5, 1) := by decide +kernel
theorem dX8_init_104 : decode cX8_init 104 = .ok (.sipush 1440, 3) := by decide +kernel
theorem dX8_init_107 : decode cX8_init 107 = .ok (.iastore, 1) := by decide +kernel
theorem dX8_init_108 : decode cX8_init 108 = .ok (.aload_n 0, 1) := by decide +kernel
theorem dX8_init_109 : decode cX8_init 109 = .ok (.getfield 7, 3) := by decide +kernel
theorem dX8_init_112 : decode cX8_init 112 = .ok (.bipush 6, 2) := by decide +kernel
theorem dX8_init_114 : decode cX8_init 114 = .ok (.bipush 20, 2) := by decide +kernel
theorem dX8_init_116 : decode cX8_init 116 = .ok (.iastore, 1) := by decide +kernel
theorem dX8_init_117 : decode cX8_init 117 = .ok (.return_, 1) := by decide +kernel
theorem dX8_thrown_0 : decode cX8_thrown 0 = .ok (.aload_n 0, 1) := by decide +kernel
theorem dX8_thrown_1 : decode cX8_thrown 1 = .ok (.getfield 31, 3) := by decide +kernel
theorem dX8_thrown_4 : decode cX8_thrown 4 = .ok (.ireturn, 1) := by decide +kernel
theorem dX8_within_0 : decode cX8_within 0 = .ok (.iload_n 0, 1) := by decide +kernel
theorem dX8_within_1 : decode cX8_within 1 = .ok (.iload_n 1, 1) := by decide +kernel
theorem dX8_within_2 : decode cX8_within 2 = .ok (.if_icmp .lt 12, 3) := by decide +kernel
theorem dX8_within_5 : decode cX8_within 5 = .ok (.iload_n 0, 1) := by decide +kernel
theorem dX8_within_6 : decode cX8_within 6 = .ok (.iload_n 2, 1) := by decide +kernel
theorem dX8_within_7 : decode cX8_within 7 = .ok (.if_icmp .gt 7, 3) := by decide +kernel
theorem dX8_within_10 : decode cX8_within 10 = .ok (.iconst 1, 1) := by decide +kernel
theorem dX8_within_11 : decode cX8_within 11 = .ok (.goto 4, 3) := by decide +kernel
theorem dX8_within_14 : decode cX8_within 14 = .ok (.iconst 0, 1) := by decide +kernel
theorem dX8_within_15 : decode cX8_within 15 = .ok (.ireturn, 1) := by decide +kernel
theorem dX8_save_0 : decode cX8_save 0 = .ok (.aload_n 0, 1) := by decide +kernel
theorem dX8_save_1 : decode cX8_save 1 = .ok (.getfield 35, 3) := by decide +kernel
theorem dX8_save_4 : decode cX8_save 4 = .ok (.bipush 6, 2) := by decide +kernel
theorem dX8_save_6 : decode cX8_save 6 = .ok (.if_icmp .ne 46, 3) := by decide +kernel
theorem dX8_save_9 : decode cX8_save 9 = .ok (.sipush 373, 3) := by decide +kernel
theorem dX8_save_12 : decode cX8_save 12 = .ok (.istore_n 1, 1) := by decide +kernel
theorem dX8_save_13 : decode cX8_save 13 = .ok (.iload_n 1, 1) := by decide +kernel
theorem dX8_save_14 : decode cX8_save 14 = .ok (.sipush 2238, 3) := by decide +kernel
theorem dX8_save_17 : decode cX8_save 17 = .ok (.if_icmp .ge 25, 3) := by decide +kernel
theorem dX8_save_20 : decode cX8_save 20 = .ok (.aload_n 0, 1) := by decide +kernel
theorem dX8_save_21 : decode cX8_save 21 = .ok (.getfield 13, 3) := by decide +kernel
theorem dX8_save_24 : decode cX8_save 24 = .ok (.iload_n 1, 1) := by decide +kernel
theorem dX8_save_25 : decode cX8_save 25 = .ok (.sipush 373, 3) := by decide +kernel
theorem dX8_save_28 : decode cX8_save 28 = .ok (.isub, 1) := by decide +kernel
theorem dX8_save_29 : decode cX8_save 29 = .ok (.aload_n 0, 1) := by decide +kernel
theorem dX8_save_30 : decode cX8_save 30 = .ok (.getfield 13, 3) := by decide +kernel
theorem dX8_save_33 : decode cX8_save 33 = .ok (.iload_n 1, 1) := by decide +kernel
theorem dX8_save_34 : decode cX8_save 34 = .ok (.iaload, 1) := by decide +kernel
theorem dX8_save_35 : decode cX8_save 35 = .ok (.iastore, 1) := by decide +kernel
theorem dX8_save_36 : decode cX8_save 36 = .ok (.iinc 1 1, 3) := by decide +kernel
theorem dX8_save_39 : decode cX8_save 39 = .ok (.goto (-26), 3) := by decide +kernel
theorem dX8_save_42 : decode cX8_save 42 = .ok (.aload_n 0, 1) := by decide +kernel
theorem dX8_save_43 : decode cX8_save 43 = .ok (.dup, 1) := by decide +kernel
theorem dX8_save_44 : decode cX8_save 44 = .ok (.getfield 35, 3) := by decide +kernel
theorem dX8_save_47 : decode cX8_save 47 = .ok (.iconst 1, 1) := by decide +kernel
theorem dX8_save_48 : decode cX8_save 48 = .ok (.isub, 1) := by decide +kernel
theorem dX8_save_49 : decode cX8_save 49 = .ok (.putfield 35, 3) := by decide +kernel
theorem dX8_save_52 : decode cX8_save 52 = .ok (.iconst 0, 1) := by decide +kernel
theorem dX8_save_53 : decode cX8_save 53 = .ok (.istore_n 1, 1) := by decide +kernel
theorem dX8_save_54 : decode cX8_save 54 = .ok (.iload_n 1, 1) := by decide +kernel
theorem dX8_save_55 : decode cX8_save 55 = .ok (.sipush 373, 3) := by decide +kernel
theorem dX8_save_58 : decode cX8_save 58 = .ok (.if_icmp .ge 30, 3) := by decide +kernel
theorem dX8_save_61 : decode cX8_save 61 = .ok (.aload_n 0, 1) := by decide +kernel
theorem dX8_save_62 : decode cX8_save 62 = .ok (.getfield 13, 3) := by decide +kernel
theorem dX8_save_65 : decode cX8_save 65 = .ok (.sipush 373, 3) := by decide +kernel
theorem dX8_save_68 : decode cX8_save 68 = .ok (.aload_n 0, 1) := by decide +kernel
theorem dX8_save_69 : decode cX8_save 69 = .ok (.getfield 35, 3) := by decide +kernel
theorem dX8_save_72 : decode cX8_save 72 = .ok (.imul, 1) := by decide +kernel
theorem dX8_save_73 : decode cX8_save 73 = .ok (.iload_n 1, 1) := by decide +kernel
theorem dX8_save_74 : decode cX8_save 74 = .ok (.iadd, 1) := by decide +kernel
theorem dX8_save_75 : decode cX8_save 75 = .ok (.aload_n 0, 1) := by decide +kernel
theorem dX8_save_76 : decode cX8_save 76 = .ok (.getfield 7, 3) := by decide +kernel
theorem dX8_save_79 : decode cX8_save 79 = .ok (.iload_n 1, 1) := by decide +kernel
theorem dX8_save_80 : decode cX8_save 80 = .ok (.iaload, 1) := by decide +kernel
theorem dX8_save_81 : decode cX8_save 81 = .ok (.iastore, 1) := by decide +kernel
theorem dX8_save_82 : decode cX8_save 82 = .ok (.iinc 1 1, 3) := by decide +kernel
theorem dX8_save_85 : decode cX8_save 85 = .ok (.goto (-31), 3) := by decide +kernel
theorem dX8_save_88 : decode cX8_save 88 = .ok (.aload_n 0, 1) := by decide +kernel
theorem dX8_save_89 : decode cX8_save 89 = .ok (.dup, 1) := by decide +kernel
theorem dX8_save_90 : decode cX8_save 90 = .ok (.getfield 35, 3) := by decide +kernel
theorem dX8_save_93 : decode cX8_save 93 = .ok (.iconst 1, 1) := by decide +kernel
theorem dX8_save_94 : decode cX8_save 94 = .ok (.iadd, 1) := by decide +kernel
theorem dX8_save_95 : decode cX8_save 95 = .ok (.putfield 35, 3) := by decide +kernel
theorem dX8_save_98 : decode cX8_save 98 = .ok (.return_, 1) := by decide +kernel
theorem dX8_isPerson_0 : decode cX8_isPerson 0 = .ok (.iload_n 1, 1) := by decide +kernel
theorem dX8_isPerson_1 : decode cX8_isPerson 1 = .ok (.iconst 0, 1) := by decide +kernel
theorem dX8_isPerson_2 : decode cX8_isPerson 2 = .ok (.aload_n 0, 1) := by decide +kernel
theorem dX8_isPerson_3 : decode cX8_isPerson 3 = .ok (.getfield 7, 3) := by decide +kernel
theorem dX8_isPerson_6 : decode cX8_isPerson 6 = .ok (.bipush 7, 2) := by decide +kernel
theorem dX8_isPerson_8 : decode cX8_isPerson 8 = .ok (.iaload, 1) := by decide +kernel
theorem dX8_isPerson_9 : decode cX8_isPerson 9 = .ok (.iconst 1, 1) := by decide +kernel
theorem dX8_isPerson_10 : decode cX8_isPerson 10 = .ok (.isub, 1) := by decide +kernel
theorem dX8_isPerson_11 : decode cX8_isPerson 11 = .ok (.invokestatic 38, 3) := by decide +kernel
theorem dX8_isPerson_14 : decode cX8_isPerson 14 = .ok (.ireturn, 1) := by decide +kernel
theorem dX8_isHearing_0 : decode cX8_isHearing 0 = .ok (.iload_n 1, 1) := by decide +kernel
theorem dX8_isHearing_1 : decode cX8_isHearing 1 = .ok (.iconst 0, 1) := by decide +kernel
theorem dX8_isHearing_2 : decode cX8_isHearing 2 = .ok (.aload_n 0, 1) := by decide +kernel
theorem dX8_isHearing_3 : decode cX8_isHearing 3 = .ok (.getfield 7, 3) := by decide +kernel
theorem dX8_isHearing_6 : decode cX8_isHearing 6 = .ok (.bipush 8, 2) := by decide +kernel
theorem dX8_isHearing_8 : decode cX8_isHearing 8 = .ok (.iaload, 1) := by decide +kernel
theorem dX8_isHearing_9 : decode cX8_isHearing 9 = .ok (.iconst 1, 1) := by decide +kernel
theorem dX8_isHearing_10 : decode cX8_isHearing 10 = .ok (.isub, 1) := by decide +kernel
theorem dX8_isHearing_11 : decode cX8_isHearing 11 = .ok (.invokestatic 38, 3) := by decide +kernel
theorem dX8_isHearing_14 : decode cX8_isHearing 14 = .ok (.ireturn, 1) := by decide +kernel
theorem dX8_of_0 : decode cX8_of 0 = .ok (.aload_n 0, 1) := by decide +kernel
theorem dX8_of_1 : decode cX8_of 1 = .ok (.getfield 7, 3) := by decide +kernel
theorem dX8_of_4 : decode cX8_of 4 = .ok (.bipush 73, 2) := by decide +kernel
theorem dX8_of_6 : decode cX8_of 6 = .ok (.bipush 10, 2) := by decide +kernel
theorem dX8_of_8 : decode cX8_of 8 = .ok (.iload_n 1, 1) := by decide +kernel
theorem dX8_of_9 : decode cX8_of 9 = .ok (.imul, 1) := by decide +kernel
theorem dX8_of_10 : decode cX8_of 10 = .ok (.iadd, 1) := by decide +kernel
theorem dX8_of_11 : decode cX8_of 11 = .ok (.iload_n 2, 1) := by decide +kernel
theorem dX8_of_12 : decode cX8_of 12 = .ok (.iadd, 1) := by decide +kernel
theorem dX8_of_13 : decode cX8_of 13 = .ok (.iaload, 1) := by decide +kernel
theorem dX8_of_14 : decode cX8_of 14 = .ok (.ireturn, 1) := by decide +kernel
theorem dX8_put_0 : decode cX8_put 0 = .ok (.aload_n 0, 1) := by decide +kernel
theorem dX8_put_1 : decode cX8_put 1 = .ok (.getfield 7, 3) := by decide +kernel
theorem dX8_put_4 : decode cX8_put 4 = .ok (.bipush 73, 2) := by decide +kernel
theorem dX8_put_6 : decode cX8_put 6 = .ok (.bipush 10, 2) := by decide +kernel
theorem dX8_put_8 : decode cX8_put 8 = .ok (.iload_n 1, 1) := by decide +kernel
theorem dX8_put_9 : decode cX8_put 9 = .ok (.imul, 1) := by decide +kernel
theorem dX8_put_10 : decode cX8_put 10 = .ok (.iadd, 1) := by decide +kernel
theorem dX8_put_11 : decode cX8_put 11 = .ok (.iload_n 2, 1) := by decide +kernel
theorem dX8_put_12 : decode cX8_put 12 = .ok (.iadd, 1) := by decide +kernel
theorem dX8_put_13 : decode cX8_put 13 = .ok (.iload_n 3, 1) := by decide +kernel
theorem dX8_put_14 : decode cX8_put 14 = .ok (.iastore, 1) := by decide +kernel
theorem dX8_put_15 : decode cX8_put 15 = .ok (.return_, 1) := by decide +kernel
theorem dX8_isListed_0 : decode cX8_isListed 0 = .ok (.aload_n 0, 1) := by decide +kernel
theorem dX8_isListed_1 : decode cX8_isListed 1 = .ok (.iload_n 1, 1) := by decide +kernel
theorem dX8_isListed_2 : decode cX8_isListed 2 = .ok (.iconst 4, 1) := by decide +kernel
theorem dX8_isListed_3 : decode cX8_isListed 3 = .ok (.invokevirtual 42, 3) := by decide +kernel
theorem dX8_isListed_6 : decode cX8_isListed 6 = .ok (.ifCond .ne 7, 3) := by decide +kernel
theorem dX8_isListed_9 : decode cX8_isListed 9 = .ok (.iconst 1, 1) := by decide +kernel
theorem dX8_isListed_10 : decode cX8_isListed 10 = .ok (.goto 4, 3) := by decide +kernel
theorem dX8_isListed_13 : decode cX8_isListed 13 = .ok (.iconst 0, 1) := by decide +kernel
theorem dX8_isListed_14 : decode cX8_isListed 14 = .ok (.ireturn, 1) := by decide +kernel
theorem dX8_hasStarted_0 : decode cX8_hasStarted 0 = .ok (.aload_n 0, 1) := by decide +kernel
theorem dX8_hasStarted_1 : decode cX8_hasStarted 1 = .ok (.iload_n 1, 1) := by decide +kernel
theorem dX8_hasStarted_2 : decode cX8_hasStarted 2 = .ok (.iconst 2, 1) := by decide +kernel
theorem dX8_hasStarted_3 : decode cX8_hasStarted 3 = .ok (.invokevirtual 42, 3) := by decide +kernel
theorem dX8_hasStarted_6 : decode cX8_hasStarted 6 = .ok (.aload_n 0, 1) := by decide +kernel
theorem dX8_hasStarted_7 : decode cX8_hasStarted 7 = .ok (.getfield 7, 3) := by decide +kernel
theorem dX8_hasStarted_10 : decode cX8_hasStarted 10 = .ok (.bipush 9, 2) := by decide +kernel
theorem dX8_hasStarted_12 : decode cX8_hasStarted 12 = .ok (.iaload, 1) := by decide +kernel
theorem dX8_hasStarted_13 : decode cX8_hasStarted 13 = .ok (.if_icmp .gt 7, 3) := by decide +kernel
theorem dX8_hasStarted_16 : decode cX8_hasStarted 16 = .ok (.iconst 1, 1) := by decide +kernel
theorem dX8_hasStarted_17 : decode cX8_hasStarted 17 = .ok (.goto 4, 3) := by decide +kernel
theorem dX8_hasStarted_20 : decode cX8_hasStarted 20 = .ok (.iconst 0, 1) := by decide +kernel
theorem dX8_hasStarted_21 : decode cX8_hasStarted 21 = .ok (.ireturn, 1) := by decide +kernel
theorem dX8_endOf_0 : decode cX8_endOf 0 = .ok (.aload_n 0, 1) := by decide +kernel
theorem dX8_endOf_1 : decode cX8_endOf 1 = .ok (.iload_n 1, 1) := by decide +kernel
theorem dX8_endOf_2 : decode cX8_endOf 2 = .ok (.iconst 2, 1) := by decide +kernel
theorem dX8_endOf_3 : decode cX8_endOf 3 = .ok (.invokevirtual 42, 3) := by decide +kernel
theorem dX8_endOf_6 : decode cX8_endOf 6 = .ok (.aload_n 0, 1) := by decide +kernel
theorem dX8_endOf_7 : decode cX8_endOf 7 = .ok (.iload_n 1, 1) := by decide +kernel
theorem dX8_endOf_8 : decode cX8_endOf 8 = .ok (.iconst 3, 1) := by decide +kernel
theorem dX8_endOf_9 : decode cX8_endOf 9 = .ok (.invokevirtual 42, 3) := by decide +kernel
theorem dX8_endOf_12 : decode cX8_endOf 12 = .ok (.iadd, 1) := by decide +kernel
theorem dX8_endOf_13 : decode cX8_endOf 13 = .ok (.ireturn, 1) := by decide +kernel
theorem dX8_isIn_0 : decode cX8_isIn 0 = .ok (.iconst 0, 1) := by decide +kernel
theorem dX8_isIn_1 : decode cX8_isIn 1 = .ok (.istore_n 3, 1) := by decide +kernel
theorem dX8_isIn_2 : decode cX8_isIn 2 = .ok (.iconst 0, 1) := by decide +kernel
theorem dX8_isIn_3 : decode cX8_isIn 3 = .ok (.istore 4, 2) := by decide +kernel
theorem dX8_isIn_5 : decode cX8_isIn 5 = .ok (.iload 4, 2) := by decide +kernel
theorem dX8_isIn_7 : decode cX8_isIn 7 = .ok (.aload_n 0, 1) := by decide +kernel
theorem dX8_isIn_8 : decode cX8_isIn 8 = .ok (.iload_n 2, 1) := by decide +kernel
theorem dX8_isIn_9 : decode cX8_isIn 9 = .ok (.iconst 5, 1) := by decide +kernel
theorem dX8_isIn_10 : decode cX8_isIn 10 = .ok (.invokevirtual 42, 3) := by decide +kernel
theorem dX8_isIn_13 : decode cX8_isIn 13 = .ok (.if_icmp .ge 33, 3) := by decide +kernel
theorem dX8_isIn_16 : decode cX8_isIn 16 = .ok (.iload_n 3, 1) := by decide +kernel
theorem dX8_isIn_17 : decode cX8_isIn 17 = .ok (.ifCond .ne 17, 3) := by decide +kernel
theorem dX8_isIn_20 : decode cX8_isIn 20 = .ok (.aload_n 0, 1) := by decide +kernel
theorem dX8_isIn_21 : decode cX8_isIn 21 = .ok (.iload_n 2, 1) := by decide +kernel
theorem dX8_isIn_22 : decode cX8_isIn 22 = .ok (.bipush 6, 2) := by decide +kernel
theorem dX8_isIn_24 : decode cX8_isIn 24 = .ok (.iload 4, 2) := by decide +kernel
theorem dX8_isIn_26 : decode cX8_isIn 26 = .ok (.iadd, 1) := by decide +kernel
theorem dX8_isIn_27 : decode cX8_isIn 27 = .ok (.invokevirtual 42, 3) := by decide +kernel
theorem dX8_isIn_30 : decode cX8_isIn 30 = .ok (.iload_n 1, 1) := by decide +kernel
theorem dX8_isIn_31 : decode cX8_isIn 31 = .ok (.if_icmp .ne 7, 3) := by decide +kernel
theorem dX8_isIn_34 : decode cX8_isIn 34 = .ok (.iconst 1, 1) := by decide +kernel
theorem dX8_isIn_35 : decode cX8_isIn 35 = .ok (.goto 4, 3) := by decide +kernel
theorem dX8_isIn_38 : decode cX8_isIn 38 = .ok (.iconst 0, 1) := by decide +kernel
theorem dX8_isIn_39 : decode cX8_isIn 39 = .ok (.istore_n 3, 1) := by decide +kernel
theorem dX8_isIn_40 : decode cX8_isIn 40 = .ok (.iinc 4 1, 3) := by decide +kernel
theorem dX8_isIn_43 : decode cX8_isIn 43 = .ok (.goto (-38), 3) := by decide +kernel
theorem dX8_isIn_46 : decode cX8_isIn 46 = .ok (.iload_n 3, 1) := by decide +kernel
theorem dX8_isIn_47 : decode cX8_isIn 47 = .ok (.ireturn, 1) := by decide +kernel
theorem dX8_clash_0 : decode cX8_clash 0 = .ok (.aload_n 0, 1) := by decide +kernel
theorem dX8_clash_1 : decode cX8_clash 1 = .ok (.iload_n 1, 1) := by decide +kernel
theorem dX8_clash_2 : decode cX8_clash 2 = .ok (.iconst 2, 1) := by decide +kernel
theorem dX8_clash_3 : decode cX8_clash 3 = .ok (.invokevirtual 42, 3) := by decide +kernel
theorem dX8_clash_6 : decode cX8_clash 6 = .ok (.aload_n 0, 1) := by decide +kernel
theorem dX8_clash_7 : decode cX8_clash 7 = .ok (.iload_n 2, 1) := by decide +kernel
theorem dX8_clash_8 : decode cX8_clash 8 = .ok (.invokevirtual 46, 3) := by decide +kernel
theorem dX8_clash_11 : decode cX8_clash 11 = .ok (.if_icmp .ge 21, 3) := by decide +kernel
theorem dX8_clash_14 : decode cX8_clash 14 = .ok (.aload_n 0, 1) := by decide +kernel
theorem dX8_clash_15 : decode cX8_clash 15 = .ok (.iload_n 2, 1) := by decide +kernel
theorem dX8_clash_16 : decode cX8_clash 16 = .ok (.iconst 2, 1) := by decide +kernel
theorem dX8_clash_17 : decode cX8_clash 17 = .ok (.invokevirtual 42, 3) := by decide +kernel
theorem dX8_clash_20 : decode cX8_clash 20 = .ok (.aload_n 0, 1) := by decide +kernel
theorem dX8_clash_21 : decode cX8_clash 21 = .ok (.iload_n 1, 1) := by decide +kernel
theorem dX8_clash_22 : decode cX8_clash 22 = .ok (.invokevirtual 46, 3) := by decide +kernel
theorem dX8_clash_25 : decode cX8_clash 25 = .ok (.if_icmp .ge 7, 3) := by decide +kernel
theorem dX8_clash_28 : decode cX8_clash 28 = .ok (.iconst 1, 1) := by decide +kernel
theorem dX8_clash_29 : decode cX8_clash 29 = .ok (.goto 4, 3) := by decide +kernel
theorem dX8_clash_32 : decode cX8_clash 32 = .ok (.iconst 0, 1) := by decide +kernel
theorem dX8_clash_33 : decode cX8_clash 33 = .ok (.ireturn, 1) := by decide +kernel
theorem dX8_isBusy_0 : decode cX8_isBusy 0 = .ok (.iconst 0, 1) := by decide +kernel
theorem dX8_isBusy_1 : decode cX8_isBusy 1 = .ok (.istore_n 3, 1) := by decide +kernel
theorem dX8_isBusy_2 : decode cX8_isBusy 2 = .ok (.iconst 0, 1) := by decide +kernel
theorem dX8_isBusy_3 : decode cX8_isBusy 3 = .ok (.istore 4, 2) := by decide +kernel
theorem dX8_isBusy_5 : decode cX8_isBusy 5 = .ok (.iload 4, 2) := by decide +kernel
theorem dX8_isBusy_7 : decode cX8_isBusy 7 = .ok (.aload_n 0, 1) := by decide +kernel
theorem dX8_isBusy_8 : decode cX8_isBusy 8 = .ok (.getfield 7, 3) := by decide +kernel
theorem dX8_isBusy_11 : decode cX8_isBusy 11 = .ok (.bipush 8, 2) := by decide +kernel
theorem dX8_isBusy_13 : decode cX8_isBusy 13 = .ok (.iaload, 1) := by decide +kernel
theorem dX8_isBusy_14 : decode cX8_isBusy 14 = .ok (.if_icmp .ge 54, 3) := by decide +kernel
theorem dX8_isBusy_17 : decode cX8_isBusy 17 = .ok (.iload_n 3, 1) := by decide +kernel
theorem dX8_isBusy_18 : decode cX8_isBusy 18 = .ok (.ifCond .ne 38, 3) := by decide +kernel
theorem dX8_isBusy_21 : decode cX8_isBusy 21 = .ok (.iload 4, 2) := by decide +kernel
theorem dX8_isBusy_23 : decode cX8_isBusy 23 = .ok (.iload_n 2, 1) := by decide +kernel
theorem dX8_isBusy_24 : decode cX8_isBusy 24 = .ok (.if_icmp .eq 36, 3) := by decide +kernel
theorem dX8_isBusy_27 : decode cX8_isBusy 27 = .ok (.aload_n 0, 1) := by decide +kernel
theorem dX8_isBusy_28 : decode cX8_isBusy 28 = .ok (.iload 4, 2) := by decide +kernel
theorem dX8_isBusy_30 : decode cX8_isBusy 30 = .ok (.invokevirtual 50, 3) := by decide +kernel
theorem dX8_isBusy_33 : decode cX8_isBusy 33 = .ok (.ifCond .eq 27, 3) := by decide +kernel
theorem dX8_isBusy_36 : decode cX8_isBusy 36 = .ok (.aload_n 0, 1) := by decide +kernel
theorem dX8_isBusy_37 : decode cX8_isBusy 37 = .ok (.iload_n 1, 1) := by decide +kernel
theorem dX8_isBusy_38 : decode cX8_isBusy 38 = .ok (.iload 4, 2) := by decide +kernel
theorem dX8_isBusy_40 : decode cX8_isBusy 40 = .ok (.invokevirtual 54, 3) := by decide +kernel
theorem dX8_isBusy_43 : decode cX8_isBusy 43 = .ok (.ifCond .eq 17, 3) := by decide +kernel
theorem dX8_isBusy_46 : decode cX8_isBusy 46 = .ok (.aload_n 0, 1) := by decide +kernel
theorem dX8_isBusy_47 : decode cX8_isBusy 47 = .ok (.iload 4, 2) := by decide +kernel
theorem dX8_isBusy_49 : decode cX8_isBusy 49 = .ok (.iload_n 2, 1) := by decide +kernel
theorem dX8_isBusy_50 : decode cX8_isBusy 50 = .ok (.invokevirtual 58, 3) := by decide +kernel
theorem dX8_isBusy_53 : decode cX8_isBusy 53 = .ok (.ifCond .eq 7, 3) := by decide +kernel
theorem dX8_isBusy_56 : decode cX8_isBusy 56 = .ok (.iconst 1, 1) := by decide +kernel
theorem dX8_isBusy_57 : decode cX8_isBusy 57 = .ok (.goto 4, 3) := by decide +kernel
theorem dX8_isBusy_60 : decode cX8_isBusy 60 = .ok (.iconst 0, 1) := by decide +kernel
theorem dX8_isBusy_61 : decode cX8_isBusy 61 = .ok (.istore_n 3, 1) := by decide +kernel
theorem dX8_isBusy_62 : decode cX8_isBusy 62 = .ok (.iinc 4 1, 3) := by decide +kernel
theorem dX8_isBusy_65 : decode cX8_isBusy 65 = .ok (.goto (-60), 3) := by decide +kernel
theorem dX8_isBusy_68 : decode cX8_isBusy 68 = .ok (.iload_n 3, 1) := by decide +kernel
theorem dX8_isBusy_69 : decode cX8_isBusy 69 = .ok (.ireturn, 1) := by decide +kernel
theorem dX8_earns_0 : decode cX8_earns 0 = .ok (.aload_n 0, 1) := by decide +kernel
theorem dX8_earns_1 : decode cX8_earns 1 = .ok (.getfield 7, 3) := by decide +kernel
theorem dX8_earns_4 : decode cX8_earns 4 = .ok (.bipush 33, 2) := by decide +kernel
theorem dX8_earns_6 : decode cX8_earns 6 = .ok (.iload_n 1, 1) := by decide +kernel
theorem dX8_earns_7 : decode cX8_earns 7 = .ok (.iadd, 1) := by decide +kernel
theorem dX8_earns_8 : decode cX8_earns 8 = .ok (.iaload, 1) := by decide +kernel
theorem dX8_earns_9 : decode cX8_earns 9 = .ok (.aload_n 0, 1) := by decide +kernel
theorem dX8_earns_10 : decode cX8_earns 10 = .ok (.iload_n 2, 1) := by decide +kernel
theorem dX8_earns_11 : decode cX8_earns 11 = .ok (.iconst 3, 1) := by decide +kernel
theorem dX8_earns_12 : decode cX8_earns 12 = .ok (.invokevirtual 42, 3) := by decide +kernel
theorem dX8_earns_15 : decode cX8_earns 15 = .ok (.imul, 1) := by decide +kernel
theorem dX8_earns_16 : decode cX8_earns 16 = .ok (.bipush 9, 2) := by decide +kernel
theorem dX8_earns_18 : decode cX8_earns 18 = .ok (.iadd, 1) := by decide +kernel
theorem dX8_earns_19 : decode cX8_earns 19 = .ok (.bipush 10, 2) := by decide +kernel
theorem dX8_earns_21 : decode cX8_earns 21 = .ok (.idiv, 1) := by decide +kernel
theorem dX8_earns_22 : decode cX8_earns 22 = .ok (.istore 4, 2) := by decide +kernel
theorem dX8_earns_24 : decode cX8_earns 24 = .ok (.iload_n 3, 1) := by decide +kernel
theorem dX8_earns_25 : decode cX8_earns 25 = .ok (.iconst 1, 1) := by decide +kernel
theorem dX8_earns_26 : decode cX8_earns 26 = .ok (.if_icmp .le 22, 3) := by decide +kernel
theorem dX8_earns_29 : decode cX8_earns 29 = .ok (.iload 4, 2) := by decide +kernel
theorem dX8_earns_31 : decode cX8_earns 31 = .ok (.bipush 100, 2) := by decide +kernel
theorem dX8_earns_33 : decode cX8_earns 33 = .ok (.aload_n 0, 1) := by decide +kernel
theorem dX8_earns_34 : decode cX8_earns 34 = .ok (.getfield 7, 3) := by decide +kernel
theorem dX8_earns_37 : decode cX8_earns 37 = .ok (.bipush 6, 2) := by decide +kernel
theorem dX8_earns_39 : decode cX8_earns 39 = .ok (.iaload, 1) := by decide +kernel
theorem dX8_earns_40 : decode cX8_earns 40 = .ok (.iadd, 1) := by decide +kernel
theorem dX8_earns_41 : decode cX8_earns 41 = .ok (.imul, 1) := by decide +kernel
theorem dX8_earns_42 : decode cX8_earns 42 = .ok (.bipush 100, 2) := by decide +kernel
theorem dX8_earns_44 : decode cX8_earns 44 = .ok (.idiv, 1) := by decide +kernel
theorem dX8_earns_45 : decode cX8_earns 45 = .ok (.goto 5, 3) := by decide +kernel
theorem dX8_earns_48 : decode cX8_earns 48 = .ok (.iload 4, 2) := by decide +kernel
theorem dX8_earns_50 : decode cX8_earns 50 = .ok (.ireturn, 1) := by decide +kernel
theorem dX8_payFor_0 : decode cX8_payFor 0 = .ok (.iconst 0, 1) := by decide +kernel
theorem dX8_payFor_1 : decode cX8_payFor 1 = .ok (.istore_n 3, 1) := by decide +kernel
theorem dX8_payFor_2 : decode cX8_payFor 2 = .ok (.aload_n 0, 1) := by decide +kernel
theorem dX8_payFor_3 : decode cX8_payFor 3 = .ok (.iload_n 1, 1) := by decide +kernel
theorem dX8_payFor_4 : decode cX8_payFor 4 = .ok (.iconst 5, 1) := by decide +kernel
theorem dX8_payFor_5 : decode cX8_payFor 5 = .ok (.invokevirtual 42, 3) := by decide +kernel
theorem dX8_payFor_8 : decode cX8_payFor 8 = .ok (.istore 4, 2) := by decide +kernel
theorem dX8_payFor_10 : decode cX8_payFor 10 = .ok (.iconst 0, 1) := by decide +kernel
theorem dX8_payFor_11 : decode cX8_payFor 11 = .ok (.istore 5, 2) := by decide +kernel
theorem dX8_payFor_13 : decode cX8_payFor 13 = .ok (.iload 5, 2) := by decide +kernel
theorem dX8_payFor_15 : decode cX8_payFor 15 = .ok (.iload 4, 2) := by decide +kernel
theorem dX8_payFor_17 : decode cX8_payFor 17 = .ok (.if_icmp .ge 33, 3) := by decide +kernel
theorem dX8_payFor_20 : decode cX8_payFor 20 = .ok (.iload_n 3, 1) := by decide +kernel
theorem dX8_payFor_21 : decode cX8_payFor 21 = .ok (.aload_n 0, 1) := by decide +kernel
theorem dX8_payFor_22 : decode cX8_payFor 22 = .ok (.aload_n 0, 1) := by decide +kernel
theorem dX8_payFor_23 : decode cX8_payFor 23 = .ok (.iload_n 1, 1) := by decide +kernel
theorem dX8_payFor_24 : decode cX8_payFor 24 = .ok (.bipush 6, 2) := by decide +kernel
theorem dX8_payFor_26 : decode cX8_payFor 26 = .ok (.iload 5, 2) := by decide +kernel
theorem dX8_payFor_28 : decode cX8_payFor 28 = .ok (.iadd, 1) := by decide +kernel
theorem dX8_payFor_29 : decode cX8_payFor 29 = .ok (.invokevirtual 42, 3) := by decide +kernel
theorem dX8_payFor_32 : decode cX8_payFor 32 = .ok (.iload_n 1, 1) := by decide +kernel
theorem dX8_payFor_33 : decode cX8_payFor 33 = .ok (.iload 4, 2) := by decide +kernel
theorem dX8_payFor_35 : decode cX8_payFor 35 = .ok (.invokevirtual 61, 3) := by decide +kernel
theorem dX8_payFor_38 : decode cX8_payFor 38 = .ok (.iload_n 2, 1) := by decide +kernel
theorem dX8_payFor_39 : decode cX8_payFor 39 = .ok (.imul, 1) := by decide +kernel
theorem dX8_payFor_40 : decode cX8_payFor 40 = .ok (.iconst 2, 1) := by decide +kernel
theorem dX8_payFor_41 : decode cX8_payFor 41 = .ok (.idiv, 1) := by decide +kernel
theorem dX8_payFor_42 : decode cX8_payFor 42 = .ok (.iadd, 1) := by decide +kernel
theorem dX8_payFor_43 : decode cX8_payFor 43 = .ok (.istore_n 3, 1) := by decide +kernel
theorem dX8_payFor_44 : decode cX8_payFor 44 = .ok (.iinc 5 1, 3) := by decide +kernel
theorem dX8_payFor_47 : decode cX8_payFor 47 = .ok (.goto (-34), 3) := by decide +kernel
theorem dX8_payFor_50 : decode cX8_payFor 50 = .ok (.iload_n 3, 1) := by decide +kernel
theorem dX8_payFor_51 : decode cX8_payFor 51 = .ok (.ireturn, 1) := by decide +kernel
theorem dX8_pay_0 : decode cX8_pay 0 = .ok (.aload_n 0, 1) := by decide +kernel
theorem dX8_pay_1 : decode cX8_pay 1 = .ok (.iload_n 1, 1) := by decide +kernel
theorem dX8_pay_2 : decode cX8_pay 2 = .ok (.iload_n 2, 1) := by decide +kernel
theorem dX8_pay_3 : decode cX8_pay 3 = .ok (.invokevirtual 65, 3) := by decide +kernel
theorem dX8_pay_6 : decode cX8_pay 6 = .ok (.istore_n 3, 1) := by decide +kernel
theorem dX8_pay_7 : decode cX8_pay 7 = .ok (.aload_n 0, 1) := by decide +kernel
theorem dX8_pay_8 : decode cX8_pay 8 = .ok (.iload_n 1, 1) := by decide +kernel
theorem dX8_pay_9 : decode cX8_pay 9 = .ok (.iconst 5, 1) := by decide +kernel
theorem dX8_pay_10 : decode cX8_pay 10 = .ok (.invokevirtual 42, 3) := by decide +kernel
theorem dX8_pay_13 : decode cX8_pay 13 = .ok (.istore 4, 2) := by decide +kernel
theorem dX8_pay_15 : decode cX8_pay 15 = .ok (.iconst 0, 1) := by decide +kernel
theorem dX8_pay_16 : decode cX8_pay 16 = .ok (.istore 5, 2) := by decide +kernel
theorem dX8_pay_18 : decode cX8_pay 18 = .ok (.iload 5, 2) := by decide +kernel
theorem dX8_pay_20 : decode cX8_pay 20 = .ok (.iload 4, 2) := by decide +kernel
theorem dX8_pay_22 : decode cX8_pay 22 = .ok (.if_icmp .ge 47, 3) := by decide +kernel
theorem dX8_pay_25 : decode cX8_pay 25 = .ok (.aload_n 0, 1) := by decide +kernel
theorem dX8_pay_26 : decode cX8_pay 26 = .ok (.iload_n 1, 1) := by decide +kernel
theorem dX8_pay_27 : decode cX8_pay 27 = .ok (.bipush 6, 2) := by decide +kernel
theorem dX8_pay_29 : decode cX8_pay 29 = .ok (.iload 5, 2) := by decide +kernel
theorem dX8_pay_31 : decode cX8_pay 31 = .ok (.iadd, 1) := by decide +kernel
theorem dX8_pay_32 : decode cX8_pay 32 = .ok (.invokevirtual 42, 3) := by decide +kernel
theorem dX8_pay_35 : decode cX8_pay 35 = .ok (.istore 6, 2) := by decide +kernel
theorem dX8_pay_37 : decode cX8_pay 37 = .ok (.aload_n 0, 1) := by decide +kernel
theorem dX8_pay_38 : decode cX8_pay 38 = .ok (.getfield 7, 3) := by decide +kernel
theorem dX8_pay_41 : decode cX8_pay 41 = .ok (.bipush 53, 2) := by decide +kernel
theorem dX8_pay_43 : decode cX8_pay 43 = .ok (.iload 6, 2) := by decide +kernel
theorem dX8_pay_45 : decode cX8_pay 45 = .ok (.iadd, 1) := by decide +kernel
theorem dX8_pay_46 : decode cX8_pay 46 = .ok (.dup2, 1) := by decide +kernel
theorem dX8_pay_47 : decode cX8_pay 47 = .ok (.iaload, 1) := by decide +kernel
theorem dX8_pay_48 : decode cX8_pay 48 = .ok (.aload_n 0, 1) := by decide +kernel
theorem dX8_pay_49 : decode cX8_pay 49 = .ok (.iload 6, 2) := by decide +kernel
theorem dX8_pay_51 : decode cX8_pay 51 = .ok (.iload_n 1, 1) := by decide +kernel
theorem dX8_pay_52 : decode cX8_pay 52 = .ok (.iload 4, 2) := by decide +kernel
theorem dX8_pay_54 : decode cX8_pay 54 = .ok (.invokevirtual 61, 3) := by decide +kernel
theorem dX8_pay_57 : decode cX8_pay 57 = .ok (.iload_n 2, 1) := by decide +kernel
theorem dX8_pay_58 : decode cX8_pay 58 = .ok (.imul, 1) := by decide +kernel
theorem dX8_pay_59 : decode cX8_pay 59 = .ok (.iconst 2, 1) := by decide +kernel
theorem dX8_pay_60 : decode cX8_pay 60 = .ok (.idiv, 1) := by decide +kernel
theorem dX8_pay_61 : decode cX8_pay 61 = .ok (.iadd, 1) := by decide +kernel
theorem dX8_pay_62 : decode cX8_pay 62 = .ok (.iastore, 1) := by decide +kernel
theorem dX8_pay_63 : decode cX8_pay 63 = .ok (.iinc 5 1, 3) := by decide +kernel
theorem dX8_pay_66 : decode cX8_pay 66 = .ok (.goto (-48), 3) := by decide +kernel
theorem dX8_pay_69 : decode cX8_pay 69 = .ok (.aload_n 0, 1) := by decide +kernel
theorem dX8_pay_70 : decode cX8_pay 70 = .ok (.getfield 7, 3) := by decide +kernel
theorem dX8_pay_73 : decode cX8_pay 73 = .ok (.bipush 73, 2) := by decide +kernel
theorem dX8_pay_75 : decode cX8_pay 75 = .ok (.bipush 10, 2) := by decide +kernel
theorem dX8_pay_77 : decode cX8_pay 77 = .ok (.iload_n 1, 1) := by decide +kernel
theorem dX8_pay_78 : decode cX8_pay 78 = .ok (.imul, 1) := by decide +kernel
theorem dX8_pay_79 : decode cX8_pay 79 = .ok (.iadd, 1) := by decide +kernel
theorem dX8_pay_80 : decode cX8_pay 80 = .ok (.bipush 9, 2) := by decide +kernel
theorem dX8_pay_82 : decode cX8_pay 82 = .ok (.iadd, 1) := by decide +kernel
theorem dX8_pay_83 : decode cX8_pay 83 = .ok (.dup2, 1) := by decide +kernel
theorem dX8_pay_84 : decode cX8_pay 84 = .ok (.iaload, 1) := by decide +kernel
theorem dX8_pay_85 : decode cX8_pay 85 = .ok (.iload_n 3, 1) := by decide +kernel
theorem dX8_pay_86 : decode cX8_pay 86 = .ok (.iadd, 1) := by decide +kernel
theorem dX8_pay_87 : decode cX8_pay 87 = .ok (.iastore, 1) := by decide +kernel
theorem dX8_pay_88 : decode cX8_pay 88 = .ok (.aload_n 0, 1) := by decide +kernel
theorem dX8_pay_89 : decode cX8_pay 89 = .ok (.getfield 7, 3) := by decide +kernel
theorem dX8_pay_92 : decode cX8_pay 92 = .ok (.bipush 10, 2) := by decide +kernel
theorem dX8_pay_94 : decode cX8_pay 94 = .ok (.dup2, 1) := by decide +kernel
theorem dX8_pay_95 : decode cX8_pay 95 = .ok (.iaload, 1) := by decide +kernel
theorem dX8_pay_96 : decode cX8_pay 96 = .ok (.iload_n 3, 1) := by decide +kernel
theorem dX8_pay_97 : decode cX8_pay 97 = .ok (.iadd, 1) := by decide +kernel
theorem dX8_pay_98 : decode cX8_pay 98 = .ok (.iastore, 1) := by decide +kernel
theorem dX8_pay_99 : decode cX8_pay 99 = .ok (.iload_n 3, 1) := by decide +kernel
theorem dX8_pay_100 : decode cX8_pay 100 = .ok (.ireturn, 1) := by decide +kernel
theorem dX8_halvesBy_0 : decode cX8_halvesBy 0 = .ok (.iload_n 1, 1) := by decide +kernel
theorem dX8_halvesBy_1 : decode cX8_halvesBy 1 = .ok (.aload_n 0, 1) := by decide +kernel
theorem dX8_halvesBy_2 : decode cX8_halvesBy 2 = .ok (.getfield 7, 3) := by decide +kernel
theorem dX8_halvesBy_5 : decode cX8_halvesBy 5 = .ok (.iconst 4, 1) := by decide +kernel
theorem dX8_halvesBy_6 : decode cX8_halvesBy 6 = .ok (.iaload, 1) := by decide +kernel
theorem dX8_halvesBy_7 : decode cX8_halvesBy 7 = .ok (.if_icmp .ge 7, 3) := by decide +kernel
theorem dX8_halvesBy_10 : decode cX8_halvesBy 10 = .ok (.iconst 2, 1) := by decide +kernel
theorem dX8_halvesBy_11 : decode cX8_halvesBy 11 = .ok (.goto 18, 3) := by decide +kernel
theorem dX8_halvesBy_14 : decode cX8_halvesBy 14 = .ok (.iload_n 1, 1) := by decide +kernel
theorem dX8_halvesBy_15 : decode cX8_halvesBy 15 = .ok (.aload_n 0, 1) := by decide +kernel
theorem dX8_halvesBy_16 : decode cX8_halvesBy 16 = .ok (.getfield 7, 3) := by decide +kernel
theorem dX8_halvesBy_19 : decode cX8_halvesBy 19 = .ok (.iconst 5, 1) := by decide +kernel
theorem dX8_halvesBy_20 : decode cX8_halvesBy 20 = .ok (.iaload, 1) := by decide +kernel
theorem dX8_halvesBy_21 : decode cX8_halvesBy 21 = .ok (.if_icmp .ge 7, 3) := by decide +kernel
theorem dX8_halvesBy_24 : decode cX8_halvesBy 24 = .ok (.iconst 1, 1) := by decide +kernel
theorem dX8_halvesBy_25 : decode cX8_halvesBy 25 = .ok (.goto 4, 3) := by decide +kernel
theorem dX8_halvesBy_28 : decode cX8_halvesBy 28 = .ok (.iconst 0, 1) := by decide +kernel
theorem dX8_halvesBy_29 : decode cX8_halvesBy 29 = .ok (.ireturn, 1) := by decide +kernel
theorem dX8_ones_0 : decode cX8_ones 0 = .ok (.iconst 0, 1) := by decide +kernel
theorem dX8_ones_1 : decode cX8_ones 1 = .ok (.istore_n 1, 1) := by decide +kernel
theorem dX8_ones_2 : decode cX8_ones 2 = .ok (.iconst 0, 1) := by decide +kernel
theorem dX8_ones_3 : decode cX8_ones 3 = .ok (.istore_n 2, 1) := by decide +kernel
theorem dX8_ones_4 : decode cX8_ones 4 = .ok (.iload_n 2, 1) := by decide +kernel
theorem dX8_ones_5 : decode cX8_ones 5 = .ok (.bipush 10, 2) := by decide +kernel
theorem dX8_ones_7 : decode cX8_ones 7 = .ok (.if_icmp .ge 17, 3) := by decide +kernel
theorem dX8_ones_10 : decode cX8_ones 10 = .ok (.iload_n 1, 1) := by decide +kernel
theorem dX8_ones_11 : decode cX8_ones 11 = .ok (.iload_n 0, 1) := by decide +kernel
theorem dX8_ones_12 : decode cX8_ones 12 = .ok (.iload_n 2, 1) := by decide +kernel
theorem dX8_ones_13 : decode cX8_ones 13 = .ok (.ishr, 1) := by decide +kernel
theorem dX8_ones_14 : decode cX8_ones 14 = .ok (.iconst 1, 1) := by decide +kernel
theorem dX8_ones_15 : decode cX8_ones 15 = .ok (.iand, 1) := by decide +kernel
theorem dX8_ones_16 : decode cX8_ones 16 = .ok (.iadd, 1) := by decide +kernel
theorem dX8_ones_17 : decode cX8_ones 17 = .ok (.istore_n 1, 1) := by decide +kernel
theorem dX8_ones_18 : decode cX8_ones 18 = .ok (.iinc 2 1, 3) := by decide +kernel
theorem dX8_ones_21 : decode cX8_ones 21 = .ok (.goto (-17), 3) := by decide +kernel
theorem dX8_ones_24 : decode cX8_ones 24 = .ok (.iload_n 1, 1) := by decide +kernel
theorem dX8_ones_25 : decode cX8_ones 25 = .ok (.ireturn, 1) := by decide +kernel
theorem dX8_addInterpreter_0 : decode cX8_addInterpreter 0 = .ok (.iload_n 1, 1) := by decide +kernel
theorem dX8_addInterpreter_1 : decode cX8_addInterpreter 1 = .ok (.iconst 1, 1) := by decide +kernel
theorem dX8_addInterpreter_2 : decode cX8_addInterpreter 2 = .ok (.sipush 1023, 3) := by decide +kernel
theorem dX8_addInterpreter_5 : decode cX8_addInterpreter 5 = .ok (.invokestatic 38, 3) := by decide +kernel
theorem dX8_addInterpreter_8 : decode cX8_addInterpreter 8 = .ok (.ifCond .eq 35, 3) := by decide +kernel
theorem dX8_addInterpreter_11 : decode cX8_addInterpreter 11 = .ok (.iload_n 1, 1) := by decide +kernel
theorem dX8_addInterpreter_12 : decode cX8_addInterpreter 12 = .ok (.invokestatic 68, 3) := by decide +kernel
theorem dX8_addInterpreter_15 : decode cX8_addInterpreter 15 = .ok (.iconst 1, 1) := by decide +kernel
theorem dX8_addInterpreter_16 : decode cX8_addInterpreter 16 = .ok (.if_icmp .le 27, 3) := by decide +kernel
theorem dX8_addInterpreter_19 : decode cX8_addInterpreter 19 = .ok (.iload_n 2, 1) := by decide +kernel
theorem dX8_addInterpreter_20 : decode cX8_addInterpreter 20 = .ok (.iconst 0, 1) := by decide +kernel
theorem dX8_addInterpreter_21 : decode cX8_addInterpreter 21 = .ok (.bipush 7, 2) := by decide +kernel
theorem dX8_addInterpreter_23 : decode cX8_addInterpreter 23 = .ok (.invokestatic 38, 3) := by decide +kernel
theorem dX8_addInterpreter_26 : decode cX8_addInterpreter 26 = .ok (.ifCond .eq 17, 3) := by decide +kernel
theorem dX8_addInterpreter_29 : decode cX8_addInterpreter 29 = .ok (.iload_n 3, 1) := by decide +kernel
theorem dX8_addInterpreter_30 : decode cX8_addInterpreter 30 = .ok (.iconst 1, 1) := by decide +kernel
theorem dX8_addInterpreter_31 : decode cX8_addInterpreter 31 = .ok (.bipush 100, 2) := by decide +kernel
theorem dX8_addInterpreter_33 : decode cX8_addInterpreter 33 = .ok (.invokestatic 38, 3) := by decide +kernel
theorem dX8_addInterpreter_36 : decode cX8_addInterpreter 36 = .ok (.ifCond .eq 7, 3) := by decide +kernel
theorem dX8_addInterpreter_39 : decode cX8_addInterpreter 39 = .ok (.iconst 1, 1) := by decide +kernel
theorem dX8_addInterpreter_40 : decode cX8_addInterpreter 40 = .ok (.goto 4, 3) := by decide +kernel
theorem dX8_addInterpreter_43 : decode cX8_addInterpreter 43 = .ok (.iconst 0, 1) := by decide +kernel
theorem dX8_addInterpreter_44 : decode cX8_addInterpreter 44 = .ok (.istore 4, 2) := by decide +kernel
theorem dX8_addInterpreter_46 : decode cX8_addInterpreter 46 = .ok (.aload_n 0, 1) := by decide +kernel
theorem dX8_addInterpreter_47 : decode cX8_addInterpreter 47 = .ok (.iload 4, 2) := by decide +kernel
theorem dX8_addInterpreter_49 : decode cX8_addInterpreter 49 = .ok (.ifCond .ne 7, 3) := by decide +kernel
theorem dX8_addInterpreter_52 : decode cX8_addInterpreter 52 = .ok (.iconst 1, 1) := by decide +kernel
theorem dX8_addInterpreter_53 : decode cX8_addInterpreter 53 = .ok (.goto 20, 3) := by decide +kernel
theorem dX8_addInterpreter_56 : decode cX8_addInterpreter 56 = .ok (.aload_n 0, 1) := by decide +kernel
theorem dX8_addInterpreter_57 : decode cX8_addInterpreter 57 = .ok (.getfield 7, 3) := by decide +kernel
theorem dX8_addInterpreter_60 : decode cX8_addInterpreter 60 = .ok (.bipush 7, 2) := by decide +kernel
theorem dX8_addInterpreter_62 : decode cX8_addInterpreter 62 = .ok (.iaload, 1) := by decide +kernel
theorem dX8_addInterpreter_63 : decode cX8_addInterpreter 63 = .ok (.bipush 10, 2) := by decide +kernel
theorem dX8_addInterpreter_65 : decode cX8_addInterpreter 65 = .ok (.if_icmp .ne 7, 3) := by decide +kernel
theorem dX8_addInterpreter_68 : decode cX8_addInterpreter 68 = .ok (.iconst 2, 1) := by decide +kernel
theorem dX8_addInterpreter_69 : decode cX8_addInterpreter 69 = .ok (.goto 4, 3) := by decide +kernel
theorem dX8_addInterpreter_72 : decode cX8_addInterpreter 72 = .ok (.iconst 0, 1) := by decide +kernel
theorem dX8_addInterpreter_73 : decode cX8_addInterpreter 73 = .ok (.putfield 31, 3) := by decide +kernel
theorem dX8_addInterpreter_76 : decode cX8_addInterpreter 76 = .ok (.aload_n 0, 1) := by decide +kernel
theorem dX8_addInterpreter_77 : decode cX8_addInterpreter 77 = .ok (.getfield 31, 3) := by decide +kernel
theorem dX8_addInterpreter_80 : decode cX8_addInterpreter 80 = .ok (.ifCond .le 5, 3) := by decide +kernel
theorem dX8_addInterpreter_83 : decode cX8_addInterpreter 83 = .ok (.iconst 0, 1) := by decide +kernel
theorem dX8_addInterpreter_84 : decode cX8_addInterpreter 84 = .ok (.ireturn, 1) := by decide +kernel
theorem dX8_addInterpreter_85 : decode cX8_addInterpreter 85 = .ok (.aload_n 0, 1) := by decide +kernel
theorem dX8_addInterpreter_86 : decode cX8_addInterpreter 86 = .ok (.invokevirtual 71, 3) := by decide +kernel
theorem dX8_addInterpreter_89 : decode cX8_addInterpreter 89 = .ok (.aload_n 0, 1) := by decide +kernel
theorem dX8_addInterpreter_90 : decode cX8_addInterpreter 90 = .ok (.getfield 7, 3) := by decide +kernel
theorem dX8_addInterpreter_93 : decode cX8_addInterpreter 93 = .ok (.bipush 7, 2) := by decide +kernel
theorem dX8_addInterpreter_95 : decode cX8_addInterpreter 95 = .ok (.iaload, 1) := by decide +kernel
theorem dX8_addInterpreter_96 : decode cX8_addInterpreter 96 = .ok (.istore 5, 2) := by decide +kernel
theorem dX8_addInterpreter_98 : decode cX8_addInterpreter 98 = .ok (.aload_n 0, 1) := by decide +kernel
theorem dX8_addInterpreter_99 : decode cX8_addInterpreter 99 = .ok (.getfield 7, 3) := by decide +kernel
theorem dX8_addInterpreter_102 : decode cX8_addInterpreter 102 = .ok (.bipush 7, 2) := by decide +kernel
theorem dX8_addInterpreter_104 : decode cX8_addInterpreter 104 = .ok (.dup2, 1) := by decide +kernel
theorem dX8_addInterpreter_105 : decode cX8_addInterpreter 105 = .ok (.iaload, 1) := by decide +kernel
theorem dX8_addInterpreter_106 : decode cX8_addInterpreter 106 = .ok (.iconst 1, 1) := by decide +kernel
theorem dX8_addInterpreter_107 : decode cX8_addInterpreter 107 = .ok (.iadd, 1) := by decide +kernel
theorem dX8_addInterpreter_108 : decode cX8_addInterpreter 108 = .ok (.iastore, 1) := by decide +kernel
theorem dX8_addInterpreter_109 : decode cX8_addInterpreter 109 = .ok (.aload_n 0, 1) := by decide +kernel
theorem dX8_addInterpreter_110 : decode cX8_addInterpreter 110 = .ok (.getfield 7, 3) := by decide +kernel
theorem dX8_addInterpreter_113 : decode cX8_addInterpreter 113 = .ok (.bipush 13, 2) := by decide +kernel
theorem dX8_addInterpreter_115 : decode cX8_addInterpreter 115 = .ok (.iload 5, 2) := by decide +kernel
theorem dX8_addInterpreter_117 : decode cX8_addInterpreter 117 = .ok (.iadd, 1) := by decide +kernel
theorem dX8_addInterpreter_118 : decode cX8_addInterpreter 118 = .ok (.iload_n 1, 1) := by decide +kernel
theorem dX8_addInterpreter_119 : decode cX8_addInterpreter 119 = .ok (.iastore, 1) := by decide +kernel
theorem dX8_addInterpreter_120 : decode cX8_addInterpreter 120 = .ok (.aload_n 0, 1) := by decide +kernel
theorem dX8_addInterpreter_121 : decode cX8_addInterpreter 121 = .ok (.getfield 7, 3) := by decide +kernel
theorem dX8_addInterpreter_124 : decode cX8_addInterpreter 124 = .ok (.bipush 23, 2) := by decide +kernel
theorem dX8_addInterpreter_126 : decode cX8_addInterpreter 126 = .ok (.iload 5, 2) := by decide +kernel
theorem dX8_addInterpreter_128 : decode cX8_addInterpreter 128 = .ok (.iadd, 1) := by decide +kernel
theorem dX8_addInterpreter_129 : decode cX8_addInterpreter 129 = .ok (.iload_n 2, 1) := by decide +kernel
theorem dX8_addInterpreter_130 : decode cX8_addInterpreter 130 = .ok (.iastore, 1) := by decide +kernel
theorem dX8_addInterpreter_131 : decode cX8_addInterpreter 131 = .ok (.aload_n 0, 1) := by decide +kernel
theorem dX8_addInterpreter_132 : decode cX8_addInterpreter 132 = .ok (.getfield 7, 3) := by decide +kernel
theorem dX8_addInterpreter_135 : decode cX8_addInterpreter 135 = .ok (.bipush 33, 2) := by decide +kernel
theorem dX8_addInterpreter_137 : decode cX8_addInterpreter 137 = .ok (.iload 5, 2) := by decide +kernel
theorem dX8_addInterpreter_139 : decode cX8_addInterpreter 139 = .ok (.iadd, 1) := by decide +kernel
theorem dX8_addInterpreter_140 : decode cX8_addInterpreter 140 = .ok (.iload_n 3, 1) := by decide +kernel
theorem dX8_addInterpreter_141 : decode cX8_addInterpreter 141 = .ok (.iastore, 1) := by decide +kernel
theorem dX8_addInterpreter_142 : decode cX8_addInterpreter 142 = .ok (.aload_n 0, 1) := by decide +kernel
theorem dX8_addInterpreter_143 : decode cX8_addInterpreter 143 = .ok (.getfield 7, 3) := by decide +kernel
theorem dX8_addInterpreter_146 : decode cX8_addInterpreter 146 = .ok (.bipush 43, 2) := by decide +kernel
theorem dX8_addInterpreter_148 : decode cX8_addInterpreter 148 = .ok (.iload 5, 2) := by decide +kernel
theorem dX8_addInterpreter_150 : decode cX8_addInterpreter 150 = .ok (.iadd, 1) := by decide +kernel
theorem dX8_addInterpreter_151 : decode cX8_addInterpreter 151 = .ok (.iconst 0, 1) := by decide +kernel
theorem dX8_addInterpreter_152 : decode cX8_addInterpreter 152 = .ok (.iastore, 1) := by decide +kernel
theorem dX8_addInterpreter_153 : decode cX8_addInterpreter 153 = .ok (.aload_n 0, 1) := by decide +kernel
theorem dX8_addInterpreter_154 : decode cX8_addInterpreter 154 = .ok (.getfield 7, 3) := by decide +kernel
theorem dX8_addInterpreter_157 : decode cX8_addInterpreter 157 = .ok (.bipush 53, 2) := by decide +kernel
theorem dX8_addInterpreter_159 : decode cX8_addInterpreter 159 = .ok (.iload 5, 2) := by decide +kernel
theorem dX8_addInterpreter_161 : decode cX8_addInterpreter 161 = .ok (.iadd, 1) := by decide +kernel
theorem dX8_addInterpreter_162 : decode cX8_addInterpreter 162 = .ok (.iconst 0, 1) := by decide +kernel
theorem dX8_addInterpreter_163 : decode cX8_addInterpreter 163 = .ok (.iastore, 1) := by decide +kernel
theorem dX8_addInterpreter_164 : decode cX8_addInterpreter 164 = .ok (.aload_n 0, 1) := by decide +kernel
theorem dX8_addInterpreter_165 : decode cX8_addInterpreter 165 = .ok (.getfield 7, 3) := by decide +kernel
theorem dX8_addInterpreter_168 : decode cX8_addInterpreter 168 = .ok (.bipush 63, 2) := by decide +kernel
theorem dX8_addInterpreter_170 : decode cX8_addInterpreter 170 = .ok (.iload 5, 2) := by decide +kernel
theorem dX8_addInterpreter_172 : decode cX8_addInterpreter 172 = .ok (.iadd, 1) := by decide +kernel
theorem dX8_addInterpreter_173 : decode cX8_addInterpreter 173 = .ok (.iconst 0, 1) := by decide +kernel
theorem dX8_addInterpreter_174 : decode cX8_addInterpreter 174 = .ok (.iastore, 1) := by decide +kernel
theorem dX8_addInterpreter_175 : decode cX8_addInterpreter 175 = .ok (.iload 5, 2) := by decide +kernel
theorem dX8_addInterpreter_177 : decode cX8_addInterpreter 177 = .ok (.ireturn, 1) := by decide +kernel
theorem dX8_putHearing_0 : decode cX8_putHearing 0 = .ok (.aload_n 0, 1) := by decide +kernel
theorem dX8_putHearing_1 : decode cX8_putHearing 1 = .ok (.getfield 7, 3) := by decide +kernel
theorem dX8_putHearing_4 : decode cX8_putHearing 4 = .ok (.bipush 8, 2) := by decide +kernel
theorem dX8_putHearing_6 : decode cX8_putHearing 6 = .ok (.iaload, 1) := by decide +kernel
theorem dX8_putHearing_7 : decode cX8_putHearing 7 = .ok (.istore 5, 2) := by decide +kernel
theorem dX8_putHearing_9 : decode cX8_putHearing 9 = .ok (.aload_n 0, 1) := by decide +kernel
theorem dX8_putHearing_10 : decode cX8_putHearing 10 = .ok (.getfield 7, 3) := by decide +kernel
theorem dX8_putHearing_13 : decode cX8_putHearing 13 = .ok (.bipush 8, 2) := by decide +kernel
theorem dX8_putHearing_15 : decode cX8_putHearing 15 = .ok (.dup2, 1) := by decide +kernel
theorem dX8_putHearing_16 : decode cX8_putHearing 16 = .ok (.iaload, 1) := by decide +kernel
theorem dX8_putHearing_17 : decode cX8_putHearing 17 = .ok (.iconst 1, 1) := by decide +kernel
theorem dX8_putHearing_18 : decode cX8_putHearing 18 = .ok (.iadd, 1) := by decide +kernel
theorem dX8_putHearing_19 : decode cX8_putHearing 19 = .ok (.iastore, 1) := by decide +kernel
theorem dX8_putHearing_20 : decode cX8_putHearing 20 = .ok (.iconst 0, 1) := by decide +kernel
theorem dX8_putHearing_21 : decode cX8_putHearing 21 = .ok (.istore 6, 2) := by decide +kernel
theorem dX8_putHearing_23 : decode cX8_putHearing 23 = .ok (.iload 6, 2) := by decide +kernel
theorem dX8_putHearing_25 : decode cX8_putHearing 25 = .ok (.bipush 10, 2) := by decide +kernel
theorem dX8_putHearing_27 : decode cX8_putHearing 27 = .ok (.if_icmp .ge 34, 3) := by decide +kernel
theorem dX8_putHearing_30 : decode cX8_putHearing 30 = .ok (.aload_n 0, 1) := by decide +kernel
theorem dX8_putHearing_31 : decode cX8_putHearing 31 = .ok (.iload 5, 2) := by decide +kernel
theorem dX8_putHearing_33 : decode cX8_putHearing 33 = .ok (.iload 6, 2) := by decide +kernel
theorem dX8_putHearing_35 : decode cX8_putHearing 35 = .ok (.iload 6, 2) := by decide +kernel
theorem dX8_putHearing_37 : decode cX8_putHearing 37 = .ok (.bipush 6, 2) := by decide +kernel
theorem dX8_putHearing_39 : decode cX8_putHearing 39 = .ok (.bipush 8, 2) := by decide +kernel
theorem dX8_putHearing_41 : decode cX8_putHearing 41 = .ok (.invokestatic 38, 3) := by decide +kernel
theorem dX8_putHearing_44 : decode cX8_putHearing 44 = .ok (.ifCond .eq 7, 3) := by decide +kernel
theorem dX8_putHearing_47 : decode cX8_putHearing 47 = .ok (.iconst (-1), 1) := by decide +kernel
theorem dX8_putHearing_48 : decode cX8_putHearing 48 = .ok (.goto 4, 3) := by decide +kernel
theorem dX8_putHearing_51 : decode cX8_putHearing 51 = .ok (.iconst 0, 1) := by decide +kernel
theorem dX8_putHearing_52 : decode cX8_putHearing 52 = .ok (.invokevirtual 74, 3) := by decide +kernel
theorem dX8_putHearing_55 : decode cX8_putHearing 55 = .ok (.iinc 6 1, 3) := by decide +kernel
theorem dX8_putHearing_58 : decode cX8_putHearing 58 = .ok (.goto (-35), 3) := by decide +kernel
theorem dX8_putHearing_61 : decode cX8_putHearing 61 = .ok (.aload_n 0, 1) := by decide +kernel
theorem dX8_putHearing_62 : decode cX8_putHearing 62 = .ok (.iload 5, 2) := by decide +kernel
theorem dX8_putHearing_64 : decode cX8_putHearing 64 = .ok (.iconst 0, 1) := by decide +kernel
theorem dX8_putHearing_65 : decode cX8_putHearing 65 = .ok (.iload_n 1, 1) := by decide +kernel
theorem dX8_putHearing_66 : decode cX8_putHearing 66 = .ok (.invokevirtual 74, 3) := by decide +kernel
theorem dX8_putHearing_69 : decode cX8_putHearing 69 = .ok (.aload_n 0, 1) := by decide +kernel
theorem dX8_putHearing_70 : decode cX8_putHearing 70 = .ok (.iload 5, 2) := by decide +kernel
theorem dX8_putHearing_72 : decode cX8_putHearing 72 = .ok (.iconst 1, 1) := by decide +kernel
theorem dX8_putHearing_73 : decode cX8_putHearing 73 = .ok (.iload_n 2, 1) := by decide +kernel
theorem dX8_putHearing_74 : decode cX8_putHearing 74 = .ok (.invokevirtual 74, 3) := by decide +kernel
theorem dX8_putHearing_77 : decode cX8_putHearing 77 = .ok (.aload_n 0, 1) := by decide +kernel
theorem dX8_putHearing_78 : decode cX8_putHearing 78 = .ok (.iload 5, 2) := by decide +kernel
theorem dX8_putHearing_80 : decode cX8_putHearing 80 = .ok (.iconst 2, 1) := by decide +kernel
theorem dX8_putHearing_81 : decode cX8_putHearing 81 = .ok (.aload_n 0, 1) := by decide +kernel
theorem dX8_putHearing_82 : decode cX8_putHearing 82 = .ok (.getfield 7, 3) := by decide +kernel
theorem dX8_putHearing_85 : decode cX8_putHearing 85 = .ok (.bipush 9, 2) := by decide +kernel
theorem dX8_putHearing_87 : decode cX8_putHearing 87 = .ok (.iaload, 1) := by decide +kernel
theorem dX8_putHearing_88 : decode cX8_putHearing 88 = .ok (.iload_n 3, 1) := by decide +kernel
theorem dX8_putHearing_89 : decode cX8_putHearing 89 = .ok (.iadd, 1) := by decide +kernel
theorem dX8_putHearing_90 : decode cX8_putHearing 90 = .ok (.invokevirtual 74, 3) := by decide +kernel
theorem dX8_putHearing_93 : decode cX8_putHearing 93 = .ok (.aload_n 0, 1) := by decide +kernel
theorem dX8_putHearing_94 : decode cX8_putHearing 94 = .ok (.iload 5, 2) := by decide +kernel
theorem dX8_putHearing_96 : decode cX8_putHearing 96 = .ok (.iconst 3, 1) := by decide +kernel
theorem dX8_putHearing_97 : decode cX8_putHearing 97 = .ok (.iload 4, 2) := by decide +kernel
theorem dX8_putHearing_99 : decode cX8_putHearing 99 = .ok (.invokevirtual 74, 3) := by decide +kernel
theorem dX8_putHearing_102 : decode cX8_putHearing 102 = .ok (.iload 5, 2) := by decide +kernel
theorem dX8_putHearing_104 : decode cX8_putHearing 104 = .ok (.ireturn, 1) := by decide +kernel
theorem dX8_addHearing_0 : decode cX8_addHearing 0 = .ok (.iload_n 1, 1) := by decide +kernel
theorem dX8_addHearing_1 : decode cX8_addHearing 1 = .ok (.iconst 0, 1) := by decide +kernel
theorem dX8_addHearing_2 : decode cX8_addHearing 2 = .ok (.iconst 2, 1) := by decide +kernel
theorem dX8_addHearing_3 : decode cX8_addHearing 3 = .ok (.invokestatic 38, 3) := by decide +kernel
theorem dX8_addHearing_6 : decode cX8_addHearing 6 = .ok (.ifCond .eq 41, 3) := by decide +kernel
theorem dX8_addHearing_9 : decode cX8_addHearing 9 = .ok (.iload_n 2, 1) := by decide +kernel
theorem dX8_addHearing_10 : decode cX8_addHearing 10 = .ok (.iconst 1, 1) := by decide +kernel
theorem dX8_addHearing_11 : decode cX8_addHearing 11 = .ok (.bipush 9, 2) := by decide +kernel
theorem dX8_addHearing_13 : decode cX8_addHearing 13 = .ok (.invokestatic 38, 3) := by decide +kernel
theorem dX8_addHearing_16 : decode cX8_addHearing 16 = .ok (.ifCond .eq 31, 3) := by decide +kernel
theorem dX8_addHearing_19 : decode cX8_addHearing 19 = .ok (.iload_n 3, 1) := by decide +kernel
theorem dX8_addHearing_20 : decode cX8_addHearing 20 = .ok (.iconst 1, 1) := by decide +kernel
theorem dX8_addHearing_21 : decode cX8_addHearing 21 = .ok (.sipush 2000, 3) := by decide +kernel
theorem dX8_addHearing_24 : decode cX8_addHearing 24 = .ok (.invokestatic 38, 3) := by decide +kernel
theorem dX8_addHearing_27 : decode cX8_addHearing 27 = .ok (.ifCond .eq 20, 3) := by decide +kernel
theorem dX8_addHearing_30 : decode cX8_addHearing 30 = .ok (.iload 4, 2) := by decide +kernel
theorem dX8_addHearing_32 : decode cX8_addHearing 32 = .ok (.bipush 10, 2) := by decide +kernel
theorem dX8_addHearing_34 : decode cX8_addHearing 34 = .ok (.sipush 240, 3) := by decide +kernel
theorem dX8_addHearing_37 : decode cX8_addHearing 37 = .ok (.invokestatic 38, 3) := by decide +kernel
theorem dX8_addHearing_40 : decode cX8_addHearing 40 = .ok (.ifCond .eq 7, 3) := by decide +kernel
theorem dX8_addHearing_43 : decode cX8_addHearing 43 = .ok (.iconst 1, 1) := by decide +kernel
theorem dX8_addHearing_44 : decode cX8_addHearing 44 = .ok (.goto 4, 3) := by decide +kernel
theorem dX8_addHearing_47 : decode cX8_addHearing 47 = .ok (.iconst 0, 1) := by decide +kernel
theorem dX8_addHearing_48 : decode cX8_addHearing 48 = .ok (.istore 5, 2) := by decide +kernel
theorem dX8_addHearing_50 : decode cX8_addHearing 50 = .ok (.aload_n 0, 1) := by decide +kernel
theorem dX8_addHearing_51 : decode cX8_addHearing 51 = .ok (.iload 5, 2) := by decide +kernel
theorem dX8_addHearing_53 : decode cX8_addHearing 53 = .ok (.ifCond .ne 7, 3) := by decide +kernel
theorem dX8_addHearing_56 : decode cX8_addHearing 56 = .ok (.iconst 1, 1) := by decide +kernel
theorem dX8_addHearing_57 : decode cX8_addHearing 57 = .ok (.goto 20, 3) := by decide +kernel
theorem dX8_addHearing_60 : decode cX8_addHearing 60 = .ok (.aload_n 0, 1) := by decide +kernel
theorem dX8_addHearing_61 : decode cX8_addHearing 61 = .ok (.getfield 7, 3) := by decide +kernel
theorem dX8_addHearing_64 : decode cX8_addHearing 64 = .ok (.bipush 8, 2) := by decide +kernel
theorem dX8_addHearing_66 : decode cX8_addHearing 66 = .ok (.iaload, 1) := by decide +kernel
theorem dX8_addHearing_67 : decode cX8_addHearing 67 = .ok (.bipush 30, 2) := by decide +kernel
theorem dX8_addHearing_69 : decode cX8_addHearing 69 = .ok (.if_icmp .ne 7, 3) := by decide +kernel
theorem dX8_addHearing_72 : decode cX8_addHearing 72 = .ok (.iconst 2, 1) := by decide +kernel
theorem dX8_addHearing_73 : decode cX8_addHearing 73 = .ok (.goto 4, 3) := by decide +kernel
theorem dX8_addHearing_76 : decode cX8_addHearing 76 = .ok (.iconst 0, 1) := by decide +kernel
theorem dX8_addHearing_77 : decode cX8_addHearing 77 = .ok (.putfield 31, 3) := by decide +kernel
theorem dX8_addHearing_80 : decode cX8_addHearing 80 = .ok (.aload_n 0, 1) := by decide +kernel
theorem dX8_addHearing_81 : decode cX8_addHearing 81 = .ok (.getfield 31, 3) := by decide +kernel
theorem dX8_addHearing_84 : decode cX8_addHearing 84 = .ok (.ifCond .le 5, 3) := by decide +kernel
theorem dX8_addHearing_87 : decode cX8_addHearing 87 = .ok (.iconst 0, 1) := by decide +kernel
theorem dX8_addHearing_88 : decode cX8_addHearing 88 = .ok (.ireturn, 1) := by decide +kernel
theorem dX8_addHearing_89 : decode cX8_addHearing 89 = .ok (.aload_n 0, 1) := by decide +kernel
theorem dX8_addHearing_90 : decode cX8_addHearing 90 = .ok (.invokevirtual 71, 3) := by decide +kernel
theorem dX8_addHearing_93 : decode cX8_addHearing 93 = .ok (.aload_n 0, 1) := by decide +kernel
theorem dX8_addHearing_94 : decode cX8_addHearing 94 = .ok (.iload_n 1, 1) := by decide +kernel
theorem dX8_addHearing_95 : decode cX8_addHearing 95 = .ok (.iload_n 2, 1) := by decide +kernel
theorem dX8_addHearing_96 : decode cX8_addHearing 96 = .ok (.iload_n 3, 1) := by decide +kernel
theorem dX8_addHearing_97 : decode cX8_addHearing 97 = .ok (.iload 4, 2) := by decide +kernel
theorem dX8_addHearing_99 : decode cX8_addHearing 99 = .ok (.invokevirtual 78, 3) := by decide +kernel
theorem dX8_addHearing_102 : decode cX8_addHearing 102 = .ok (.ireturn, 1) := by decide +kernel
theorem dX8_certify_0 : decode cX8_certify 0 = .ok (.aload_n 0, 1) := by decide +kernel
theorem dX8_certify_1 : decode cX8_certify 1 = .ok (.aload_n 0, 1) := by decide +kernel
theorem dX8_certify_2 : decode cX8_certify 2 = .ok (.iload_n 1, 1) := by decide +kernel
theorem dX8_certify_3 : decode cX8_certify 3 = .ok (.invokevirtual 82, 3) := by decide +kernel
theorem dX8_certify_6 : decode cX8_certify 6 = .ok (.ifCond .ne 7, 3) := by decide +kernel
theorem dX8_certify_9 : decode cX8_certify 9 = .ok (.iconst 1, 1) := by decide +kernel
theorem dX8_certify_10 : decode cX8_certify 10 = .ok (.goto 18, 3) := by decide +kernel
theorem dX8_certify_13 : decode cX8_certify 13 = .ok (.iload_n 2, 1) := by decide +kernel
theorem dX8_certify_14 : decode cX8_certify 14 = .ok (.iconst 0, 1) := by decide +kernel
theorem dX8_certify_15 : decode cX8_certify 15 = .ok (.bipush 7, 2) := by decide +kernel
theorem dX8_certify_17 : decode cX8_certify 17 = .ok (.invokestatic 38, 3) := by decide +kernel
theorem dX8_certify_20 : decode cX8_certify 20 = .ok (.ifCond .eq 7, 3) := by decide +kernel
theorem dX8_certify_23 : decode cX8_certify 23 = .ok (.iconst 0, 1) := by decide +kernel
theorem dX8_certify_24 : decode cX8_certify 24 = .ok (.goto 4, 3) := by decide +kernel
theorem dX8_certify_27 : decode cX8_certify 27 = .ok (.iconst 2, 1) := by decide +kernel
theorem dX8_certify_28 : decode cX8_certify 28 = .ok (.putfield 31, 3) := by decide +kernel
theorem dX8_certify_31 : decode cX8_certify 31 = .ok (.aload_n 0, 1) := by decide +kernel
theorem dX8_certify_32 : decode cX8_certify 32 = .ok (.getfield 31, 3) := by decide +kernel
theorem dX8_certify_35 : decode cX8_certify 35 = .ok (.ifCond .le 5, 3) := by decide +kernel
theorem dX8_certify_38 : decode cX8_certify 38 = .ok (.iconst 0, 1) := by decide +kernel
theorem dX8_certify_39 : decode cX8_certify 39 = .ok (.ireturn, 1) := by decide +kernel
theorem dX8_certify_40 : decode cX8_certify 40 = .ok (.aload_n 0, 1) := by decide +kernel
theorem dX8_certify_41 : decode cX8_certify 41 = .ok (.invokevirtual 71, 3) := by decide +kernel
theorem dX8_certify_44 : decode cX8_certify 44 = .ok (.aload_n 0, 1) := by decide +kernel
theorem dX8_certify_45 : decode cX8_certify 45 = .ok (.getfield 7, 3) := by decide +kernel
theorem dX8_certify_48 : decode cX8_certify 48 = .ok (.bipush 23, 2) := by decide +kernel
theorem dX8_certify_50 : decode cX8_certify 50 = .ok (.iload_n 1, 1) := by decide +kernel
theorem dX8_certify_51 : decode cX8_certify 51 = .ok (.iadd, 1) := by decide +kernel
theorem dX8_certify_52 : decode cX8_certify 52 = .ok (.iaload, 1) := by decide +kernel
theorem dX8_certify_53 : decode cX8_certify 53 = .ok (.istore_n 3, 1) := by decide +kernel
theorem dX8_certify_54 : decode cX8_certify 54 = .ok (.aload_n 0, 1) := by decide +kernel
theorem dX8_certify_55 : decode cX8_certify 55 = .ok (.getfield 7, 3) := by decide +kernel
theorem dX8_certify_58 : decode cX8_certify 58 = .ok (.bipush 23, 2) := by decide +kernel
theorem dX8_certify_60 : decode cX8_certify 60 = .ok (.iload_n 1, 1) := by decide +kernel
theorem dX8_certify_61 : decode cX8_certify 61 = .ok (.iadd, 1) := by decide +kernel
theorem dX8_certify_62 : decode cX8_certify 62 = .ok (.iload_n 2, 1) := by decide +kernel
theorem dX8_certify_63 : decode cX8_certify 63 = .ok (.iastore, 1) := by decide +kernel
theorem dX8_certify_64 : decode cX8_certify 64 = .ok (.iload_n 3, 1) := by decide +kernel
theorem dX8_certify_65 : decode cX8_certify 65 = .ok (.ireturn, 1) := by decide +kernel
theorem dX8_isSetting_0 : decode cX8_isSetting 0 = .ok (.iload_n 0, 1) := by decide +kernel
theorem dX8_isSetting_1 : decode cX8_isSetting 1 = .ok (.iconst 0, 1) := by decide +kernel
theorem dX8_isSetting_2 : decode cX8_isSetting 2 = .ok (.bipush 6, 2) := by decide +kernel
theorem dX8_isSetting_4 : decode cX8_isSetting 4 = .ok (.invokestatic 38, 3) := by decide +kernel
theorem dX8_isSetting_7 : decode cX8_isSetting 7 = .ok (.ireturn, 1) := by decide +kernel
theorem dX8_isValue_0 : decode cX8_isValue 0 = .ok (.iload_n 0, 1) := by decide +kernel
theorem dX8_isValue_1 : decode cX8_isValue 1 = .ok (.tableswitch 66 3 6 #[31, 40, 49, 58], 31) := by decide +kernel
theorem dX8_isValue_32 : decode cX8_isValue 32 = .ok (.iload_n 1, 1) := by decide +kernel
theorem dX8_isValue_33 : decode cX8_isValue 33 = .ok (.iconst 0, 1) := by decide +kernel
theorem dX8_isValue_34 : decode cX8_isValue 34 = .ok (.sipush 1000, 3) := by decide +kernel
theorem dX8_isValue_37 : decode cX8_isValue 37 = .ok (.invokestatic 38, 3) := by decide +kernel
theorem dX8_isValue_40 : decode cX8_isValue 40 = .ok (.ireturn, 1) := by decide +kernel
theorem dX8_isValue_41 : decode cX8_isValue 41 = .ok (.iload_n 1, 1) := by decide +kernel
theorem dX8_isValue_42 : decode cX8_isValue 42 = .ok (.iconst 0, 1) := by decide +kernel
theorem dX8_isValue_43 : decode cX8_isValue 43 = .ok (.sipush 2000, 3) := by decide +kernel
theorem dX8_isValue_46 : decode cX8_isValue 46 = .ok (.invokestatic 38, 3) := by decide +kernel
theorem dX8_isValue_49 : decode cX8_isValue 49 = .ok (.ireturn, 1) := by decide +kernel
theorem dX8_isValue_50 : decode cX8_isValue 50 = .ok (.iload_n 1, 1) := by decide +kernel
theorem dX8_isValue_51 : decode cX8_isValue 51 = .ok (.iconst 0, 1) := by decide +kernel
theorem dX8_isValue_52 : decode cX8_isValue 52 = .ok (.sipush 5000, 3) := by decide +kernel
theorem dX8_isValue_55 : decode cX8_isValue 55 = .ok (.invokestatic 38, 3) := by decide +kernel
theorem dX8_isValue_58 : decode cX8_isValue 58 = .ok (.ireturn, 1) := by decide +kernel
theorem dX8_isValue_59 : decode cX8_isValue 59 = .ok (.iload_n 1, 1) := by decide +kernel
theorem dX8_isValue_60 : decode cX8_isValue 60 = .ok (.iconst 0, 1) := by decide +kernel
theorem dX8_isValue_61 : decode cX8_isValue 61 = .ok (.bipush 100, 2) := by decide +kernel
theorem dX8_isValue_63 : decode cX8_isValue 63 = .ok (.invokestatic 38, 3) := by decide +kernel
theorem dX8_isValue_66 : decode cX8_isValue 66 = .ok (.ireturn, 1) := by decide +kernel
theorem dX8_isValue_67 : decode cX8_isValue 67 = .ok (.iload_n 1, 1) := by decide +kernel
theorem dX8_isValue_68 : decode cX8_isValue 68 = .ok (.iconst 0, 1) := by decide +kernel
theorem dX8_isValue_69 : decode cX8_isValue 69 = .ok (.bipush 20, 2) := by decide +kernel
theorem dX8_isValue_71 : decode cX8_isValue 71 = .ok (.invokestatic 38, 3) := by decide +kernel
theorem dX8_isValue_74 : decode cX8_isValue 74 = .ok (.ireturn, 1) := by decide +kernel
theorem dX8_set_0 : decode cX8_set 0 = .ok (.aload_n 0, 1) := by decide +kernel
theorem dX8_set_1 : decode cX8_set 1 = .ok (.iload_n 1, 1) := by decide +kernel
theorem dX8_set_2 : decode cX8_set 2 = .ok (.invokestatic 85, 3) := by decide +kernel
theorem dX8_set_5 : decode cX8_set 5 = .ok (.ifCond .ne 7, 3) := by decide +kernel
theorem dX8_set_8 : decode cX8_set 8 = .ok (.iconst 1, 1) := by decide +kernel
theorem dX8_set_9 : decode cX8_set 9 = .ok (.goto 16, 3) := by decide +kernel
theorem dX8_set_12 : decode cX8_set 12 = .ok (.iload_n 1, 1) := by decide +kernel
theorem dX8_set_13 : decode cX8_set 13 = .ok (.iload_n 2, 1) := by decide +kernel
theorem dX8_set_14 : decode cX8_set 14 = .ok (.invokestatic 88, 3) := by decide +kernel
theorem dX8_set_17 : decode cX8_set 17 = .ok (.ifCond .eq 7, 3) := by decide +kernel
theorem dX8_set_20 : decode cX8_set 20 = .ok (.iconst 0, 1) := by decide +kernel
theorem dX8_set_21 : decode cX8_set 21 = .ok (.goto 4, 3) := by decide +kernel
theorem dX8_set_24 : decode cX8_set 24 = .ok (.iconst 2, 1) := by decide +kernel
theorem dX8_set_25 : decode cX8_set 25 = .ok (.putfield 31, 3) := by decide +kernel
theorem dX8_set_28 : decode cX8_set 28 = .ok (.aload_n 0, 1) := by decide +kernel
theorem dX8_set_29 : decode cX8_set 29 = .ok (.getfield 31, 3) := by decide +kernel
theorem dX8_set_32 : decode cX8_set 32 = .ok (.ifCond .le 5, 3) := by decide +kernel
theorem dX8_set_35 : decode cX8_set 35 = .ok (.iconst 0, 1) := by decide +kernel
theorem dX8_set_36 : decode cX8_set 36 = .ok (.ireturn, 1) := by decide +kernel
theorem dX8_set_37 : decode cX8_set 37 = .ok (.aload_n 0, 1) := by decide +kernel
theorem dX8_set_38 : decode cX8_set 38 = .ok (.invokevirtual 71, 3) := by decide +kernel
theorem dX8_set_41 : decode cX8_set 41 = .ok (.aload_n 0, 1) := by decide +kernel
theorem dX8_set_42 : decode cX8_set 42 = .ok (.getfield 7, 3) := by decide +kernel
theorem dX8_set_45 : decode cX8_set 45 = .ok (.iconst 0, 1) := by decide +kernel
theorem dX8_set_46 : decode cX8_set 46 = .ok (.iload_n 1, 1) := by decide +kernel
theorem dX8_set_47 : decode cX8_set 47 = .ok (.iadd, 1) := by decide +kernel
theorem dX8_set_48 : decode cX8_set 48 = .ok (.iaload, 1) := by decide +kernel
theorem dX8_set_49 : decode cX8_set 49 = .ok (.istore_n 3, 1) := by decide +kernel
theorem dX8_set_50 : decode cX8_set 50 = .ok (.aload_n 0, 1) := by decide +kernel
theorem dX8_set_51 : decode cX8_set 51 = .ok (.getfield 7, 3) := by decide +kernel
theorem dX8_set_54 : decode cX8_set 54 = .ok (.iconst 0, 1) := by decide +kernel
theorem dX8_set_55 : decode cX8_set 55 = .ok (.iload_n 1, 1) := by decide +kernel
theorem dX8_set_56 : decode cX8_set 56 = .ok (.iadd, 1) := by decide +kernel
theorem dX8_set_57 : decode cX8_set 57 = .ok (.iload_n 2, 1) := by decide +kernel
theorem dX8_set_58 : decode cX8_set 58 = .ok (.iastore, 1) := by decide +kernel
theorem dX8_set_59 : decode cX8_set 59 = .ok (.iload_n 3, 1) := by decide +kernel
theorem dX8_set_60 : decode cX8_set 60 = .ok (.ireturn, 1) := by decide +kernel
theorem dX8_lay_0 : decode cX8_lay 0 = .ok (.aload_n 0, 1) := by decide +kernel
theorem dX8_lay_1 : decode cX8_lay 1 = .ok (.getfield 19, 3) := by decide +kernel
theorem dX8_lay_4 : decode cX8_lay 4 = .ok (.iconst 0, 1) := by decide +kernel
theorem dX8_lay_5 : decode cX8_lay 5 = .ok (.iload_n 1, 1) := by decide +kernel
theorem dX8_lay_6 : decode cX8_lay 6 = .ok (.iastore, 1) := by decide +kernel
theorem dX8_lay_7 : decode cX8_lay 7 = .ok (.aload_n 0, 1) := by decide +kernel
theorem dX8_lay_8 : decode cX8_lay 8 = .ok (.getfield 19, 3) := by decide +kernel
theorem dX8_lay_11 : decode cX8_lay 11 = .ok (.iconst 1, 1) := by decide +kernel
theorem dX8_lay_12 : decode cX8_lay 12 = .ok (.iload_n 2, 1) := by decide +kernel
theorem dX8_lay_13 : decode cX8_lay 13 = .ok (.iastore, 1) := by decide +kernel
theorem dX8_lay_14 : decode cX8_lay 14 = .ok (.aload_n 0, 1) := by decide +kernel
theorem dX8_lay_15 : decode cX8_lay 15 = .ok (.getfield 19, 3) := by decide +kernel
theorem dX8_lay_18 : decode cX8_lay 18 = .ok (.iconst 2, 1) := by decide +kernel
theorem dX8_lay_19 : decode cX8_lay 19 = .ok (.iload_n 3, 1) := by decide +kernel
theorem dX8_lay_20 : decode cX8_lay 20 = .ok (.iastore, 1) := by decide +kernel
theorem dX8_lay_21 : decode cX8_lay 21 = .ok (.aload_n 0, 1) := by decide +kernel
theorem dX8_lay_22 : decode cX8_lay 22 = .ok (.iload_n 2, 1) := by decide +kernel
theorem dX8_lay_23 : decode cX8_lay 23 = .ok (.iconst (-1), 1) := by decide +kernel
theorem dX8_lay_24 : decode cX8_lay 24 = .ok (.if_icmp .ne 7, 3) := by decide +kernel
theorem dX8_lay_27 : decode cX8_lay 27 = .ok (.iconst 1, 1) := by decide +kernel
theorem dX8_lay_28 : decode cX8_lay 28 = .ok (.goto 13, 3) := by decide +kernel
theorem dX8_lay_31 : decode cX8_lay 31 = .ok (.iload_n 3, 1) := by decide +kernel
theorem dX8_lay_32 : decode cX8_lay 32 = .ok (.iconst (-1), 1) := by decide +kernel
theorem dX8_lay_33 : decode cX8_lay 33 = .ok (.if_icmp .ne 7, 3) := by decide +kernel
theorem dX8_lay_36 : decode cX8_lay 36 = .ok (.iconst 2, 1) := by decide +kernel
theorem dX8_lay_37 : decode cX8_lay 37 = .ok (.goto 4, 3) := by decide +kernel
theorem dX8_lay_40 : decode cX8_lay 40 = .ok (.iconst 3, 1) := by decide +kernel
theorem dX8_lay_41 : decode cX8_lay 41 = .ok (.putfield 91, 3) := by decide +kernel
theorem dX8_lay_44 : decode cX8_lay 44 = .ok (.return_, 1) := by decide +kernel
theorem dX8_isChain_0 : decode cX8_isChain 0 = .ok (.iconst 1, 1) := by decide +kernel
theorem dX8_isChain_1 : decode cX8_isChain 1 = .ok (.iload_n 1, 1) := by decide +kernel
theorem dX8_isChain_2 : decode cX8_isChain 2 = .ok (.ishl, 1) := by decide +kernel
theorem dX8_isChain_3 : decode cX8_isChain 3 = .ok (.istore_n 2, 1) := by decide +kernel
theorem dX8_isChain_4 : decode cX8_isChain 4 = .ok (.iconst 1, 1) := by decide +kernel
theorem dX8_isChain_5 : decode cX8_isChain 5 = .ok (.istore_n 3, 1) := by decide +kernel
theorem dX8_isChain_6 : decode cX8_isChain 6 = .ok (.iconst 0, 1) := by decide +kernel
theorem dX8_isChain_7 : decode cX8_isChain 7 = .ok (.istore 4, 2) := by decide +kernel
theorem dX8_isChain_9 : decode cX8_isChain 9 = .ok (.iload 4, 2) := by decide +kernel
theorem dX8_isChain_11 : decode cX8_isChain 11 = .ok (.aload_n 0, 1) := by decide +kernel
theorem dX8_isChain_12 : decode cX8_isChain 12 = .ok (.getfield 91, 3) := by decide +kernel
theorem dX8_isChain_15 : decode cX8_isChain 15 = .ok (.if_icmp .ge 55, 3) := by decide +kernel
theorem dX8_isChain_18 : decode cX8_isChain 18 = .ok (.iload_n 3, 1) := by decide +kernel
theorem dX8_isChain_19 : decode cX8_isChain 19 = .ok (.ifCond .eq 27, 3) := by decide +kernel
theorem dX8_isChain_22 : decode cX8_isChain 22 = .ok (.aload_n 0, 1) := by decide +kernel
theorem dX8_isChain_23 : decode cX8_isChain 23 = .ok (.getfield 7, 3) := by decide +kernel
theorem dX8_isChain_26 : decode cX8_isChain 26 = .ok (.bipush 13, 2) := by decide +kernel
theorem dX8_isChain_28 : decode cX8_isChain 28 = .ok (.aload_n 0, 1) := by decide +kernel
theorem dX8_isChain_29 : decode cX8_isChain 29 = .ok (.getfield 19, 3) := by decide +kernel
theorem dX8_isChain_32 : decode cX8_isChain 32 = .ok (.iload 4, 2) := by decide +kernel
theorem dX8_isChain_34 : decode cX8_isChain 34 = .ok (.iaload, 1) := by decide +kernel
theorem dX8_isChain_35 : decode cX8_isChain 35 = .ok (.iadd, 1) := by decide +kernel
theorem dX8_isChain_36 : decode cX8_isChain 36 = .ok (.iaload, 1) := by decide +kernel
theorem dX8_isChain_37 : decode cX8_isChain 37 = .ok (.iload_n 2, 1) := by decide +kernel
theorem dX8_isChain_38 : decode cX8_isChain 38 = .ok (.iand, 1) := by decide +kernel
theorem dX8_isChain_39 : decode cX8_isChain 39 = .ok (.ifCond .eq 7, 3) := by decide +kernel
theorem dX8_isChain_42 : decode cX8_isChain 42 = .ok (.iconst 1, 1) := by decide +kernel
theorem dX8_isChain_43 : decode cX8_isChain 43 = .ok (.goto 4, 3) := by decide +kernel
theorem dX8_isChain_46 : decode cX8_isChain 46 = .ok (.iconst 0, 1) := by decide +kernel
theorem dX8_isChain_47 : decode cX8_isChain 47 = .ok (.istore_n 3, 1) := by decide +kernel
theorem dX8_isChain_48 : decode cX8_isChain 48 = .ok (.aload_n 0, 1) := by decide +kernel
theorem dX8_isChain_49 : decode cX8_isChain 49 = .ok (.getfield 7, 3) := by decide +kernel
theorem dX8_isChain_52 : decode cX8_isChain 52 = .ok (.bipush 13, 2) := by decide +kernel
theorem dX8_isChain_54 : decode cX8_isChain 54 = .ok (.aload_n 0, 1) := by decide +kernel
theorem dX8_isChain_55 : decode cX8_isChain 55 = .ok (.getfield 19, 3) := by decide +kernel
theorem dX8_isChain_58 : decode cX8_isChain 58 = .ok (.iload 4, 2) := by decide +kernel
theorem dX8_isChain_60 : decode cX8_isChain 60 = .ok (.iaload, 1) := by decide +kernel
theorem dX8_isChain_61 : decode cX8_isChain 61 = .ok (.iadd, 1) := by decide +kernel
theorem dX8_isChain_62 : decode cX8_isChain 62 = .ok (.iaload, 1) := by decide +kernel
theorem dX8_isChain_63 : decode cX8_isChain 63 = .ok (.istore_n 2, 1) := by decide +kernel
theorem dX8_isChain_64 : decode cX8_isChain 64 = .ok (.iinc 4 1, 3) := by decide +kernel
theorem dX8_isChain_67 : decode cX8_isChain 67 = .ok (.goto (-58), 3) := by decide +kernel
theorem dX8_isChain_70 : decode cX8_isChain 70 = .ok (.iload_n 3, 1) := by decide +kernel
theorem dX8_isChain_71 : decode cX8_isChain 71 = .ok (.ifCond .eq 14, 3) := by decide +kernel
theorem dX8_isChain_74 : decode cX8_isChain 74 = .ok (.iload_n 2, 1) := by decide +kernel
theorem dX8_isChain_75 : decode cX8_isChain 75 = .ok (.iconst 1, 1) := by decide +kernel
theorem dX8_isChain_76 : decode cX8_isChain 76 = .ok (.iand, 1) := by decide +kernel
theorem dX8_isChain_77 : decode cX8_isChain 77 = .ok (.iconst 1, 1) := by decide +kernel
theorem dX8_isChain_78 : decode cX8_isChain 78 = .ok (.if_icmp .ne 7, 3) := by decide +kernel
theorem dX8_isChain_81 : decode cX8_isChain 81 = .ok (.iconst 1, 1) := by decide +kernel
theorem dX8_isChain_82 : decode cX8_isChain 82 = .ok (.goto 4, 3) := by decide +kernel
theorem dX8_isChain_85 : decode cX8_isChain 85 = .ok (.iconst 0, 1) := by decide +kernel
theorem dX8_isChain_86 : decode cX8_isChain 86 = .ok (.ireturn, 1) := by decide +kernel
theorem dX8_areCertified_0 : decode cX8_areCertified 0 = .ok (.iconst 1, 1) := by decide +kernel
theorem dX8_areCertified_1 : decode cX8_areCertified 1 = .ok (.istore_n 2, 1) := by decide +kernel
theorem dX8_areCertified_2 : decode cX8_areCertified 2 = .ok (.iconst 0, 1) := by decide +kernel
theorem dX8_areCertified_3 : decode cX8_areCertified 3 = .ok (.istore_n 3, 1) := by decide +kernel
theorem dX8_areCertified_4 : decode cX8_areCertified 4 = .ok (.iload_n 3, 1) := by decide +kernel
theorem dX8_areCertified_5 : decode cX8_areCertified 5 = .ok (.aload_n 0, 1) := by decide +kernel
theorem dX8_areCertified_6 : decode cX8_areCertified 6 = .ok (.getfield 91, 3) := by decide +kernel
theorem dX8_areCertified_9 : decode cX8_areCertified 9 = .ok (.if_icmp .ge 41, 3) := by decide +kernel
theorem dX8_areCertified_12 : decode cX8_areCertified 12 = .ok (.iload_n 2, 1) := by decide +kernel
theorem dX8_areCertified_13 : decode cX8_areCertified 13 = .ok (.ifCond .eq 29, 3) := by decide +kernel
theorem dX8_areCertified_16 : decode cX8_areCertified 16 = .ok (.aload_n 0, 1) := by decide +kernel
theorem dX8_areCertified_17 : decode cX8_areCertified 17 = .ok (.getfield 7, 3) := by decide +kernel
theorem dX8_areCertified_20 : decode cX8_areCertified 20 = .ok (.bipush 23, 2) := by decide +kernel
theorem dX8_areCertified_22 : decode cX8_areCertified 22 = .ok (.aload_n 0, 1) := by decide +kernel
theorem dX8_areCertified_23 : decode cX8_areCertified 23 = .ok (.getfield 19, 3) := by decide +kernel
theorem dX8_areCertified_26 : decode cX8_areCertified 26 = .ok (.iload_n 3, 1) := by decide +kernel
theorem dX8_areCertified_27 : decode cX8_areCertified 27 = .ok (.iaload, 1) := by decide +kernel
theorem dX8_areCertified_28 : decode cX8_areCertified 28 = .ok (.iadd, 1) := by decide +kernel
theorem dX8_areCertified_29 : decode cX8_areCertified 29 = .ok (.iaload, 1) := by decide +kernel
theorem dX8_areCertified_30 : decode cX8_areCertified 30 = .ok (.iload_n 1, 1) := by decide +kernel
theorem dX8_areCertified_31 : decode cX8_areCertified 31 = .ok (.ishr, 1) := by decide +kernel
theorem dX8_areCertified_32 : decode cX8_areCertified 32 = .ok (.iconst 1, 1) := by decide +kernel
theorem dX8_areCertified_33 : decode cX8_areCertified 33 = .ok (.iand, 1) := by decide +kernel
theorem dX8_areCertified_34 : decode cX8_areCertified 34 = .ok (.iconst 1, 1) := by decide +kernel
theorem dX8_areCertified_35 : decode cX8_areCertified 35 = .ok (.if_icmp .ne 7, 3) := by decide +kernel
theorem dX8_areCertified_38 : decode cX8_areCertified 38 = .ok (.iconst 1, 1) := by decide +kernel
theorem dX8_areCertified_39 : decode cX8_areCertified 39 = .ok (.goto 4, 3) := by decide +kernel
theorem dX8_areCertified_42 : decode cX8_areCertified 42 = .ok (.iconst 0, 1) := by decide +kernel
theorem dX8_areCertified_43 : decode cX8_areCertified 43 = .ok (.istore_n 2, 1) := by decide +kernel
theorem dX8_areCertified_44 : decode cX8_areCertified 44 = .ok (.iinc 3 1, 3) := by decide +kernel
theorem dX8_areCertified_47 : decode cX8_areCertified 47 = .ok (.goto (-43), 3) := by decide +kernel
theorem dX8_areCertified_50 : decode cX8_areCertified 50 = .ok (.iload_n 2, 1) := by decide +kernel
theorem dX8_areCertified_51 : decode cX8_areCertified 51 = .ok (.ireturn, 1) := by decide +kernel
theorem dX8_areBusy_0 : decode cX8_areBusy 0 = .ok (.iconst 0, 1) := by decide +kernel
theorem dX8_areBusy_1 : decode cX8_areBusy 1 = .ok (.istore_n 2, 1) := by decide +kernel
theorem dX8_areBusy_2 : decode cX8_areBusy 2 = .ok (.iconst 0, 1) := by decide +kernel
theorem dX8_areBusy_3 : decode cX8_areBusy 3 = .ok (.istore_n 3, 1) := by decide +kernel
theorem dX8_areBusy_4 : decode cX8_areBusy 4 = .ok (.iload_n 3, 1) := by decide +kernel
theorem dX8_areBusy_5 : decode cX8_areBusy 5 = .ok (.aload_n 0, 1) := by decide +kernel
theorem dX8_areBusy_6 : decode cX8_areBusy 6 = .ok (.getfield 91, 3) := by decide +kernel
theorem dX8_areBusy_9 : decode cX8_areBusy 9 = .ok (.if_icmp .ge 33, 3) := by decide +kernel
theorem dX8_areBusy_12 : decode cX8_areBusy 12 = .ok (.iload_n 2, 1) := by decide +kernel
theorem dX8_areBusy_13 : decode cX8_areBusy 13 = .ok (.ifCond .ne 17, 3) := by decide +kernel
theorem dX8_areBusy_16 : decode cX8_areBusy 16 = .ok (.aload_n 0, 1) := by decide +kernel
theorem dX8_areBusy_17 : decode cX8_areBusy 17 = .ok (.aload_n 0, 1) := by decide +kernel
theorem dX8_areBusy_18 : decode cX8_areBusy 18 = .ok (.getfield 19, 3) := by decide +kernel
theorem dX8_areBusy_21 : decode cX8_areBusy 21 = .ok (.iload_n 3, 1) := by decide +kernel
theorem dX8_areBusy_22 : decode cX8_areBusy 22 = .ok (.iaload, 1) := by decide +kernel
theorem dX8_areBusy_23 : decode cX8_areBusy 23 = .ok (.iload_n 1, 1) := by decide +kernel
theorem dX8_areBusy_24 : decode cX8_areBusy 24 = .ok (.invokevirtual 94, 3) := by decide +kernel
theorem dX8_areBusy_27 : decode cX8_areBusy 27 = .ok (.ifCond .eq 7, 3) := by decide +kernel
theorem dX8_areBusy_30 : decode cX8_areBusy 30 = .ok (.iconst 1, 1) := by decide +kernel
theorem dX8_areBusy_31 : decode cX8_areBusy 31 = .ok (.goto 4, 3) := by decide +kernel
theorem dX8_areBusy_34 : decode cX8_areBusy 34 = .ok (.iconst 0, 1) := by decide +kernel
theorem dX8_areBusy_35 : decode cX8_areBusy 35 = .ok (.istore_n 2, 1) := by decide +kernel
theorem dX8_areBusy_36 : decode cX8_areBusy 36 = .ok (.iinc 3 1, 3) := by decide +kernel
theorem dX8_areBusy_39 : decode cX8_areBusy 39 = .ok (.goto (-35), 3) := by decide +kernel
theorem dX8_areBusy_42 : decode cX8_areBusy 42 = .ok (.iload_n 2, 1) := by decide +kernel
theorem dX8_areBusy_43 : decode cX8_areBusy 43 = .ok (.ireturn, 1) := by decide +kernel
theorem dX8_reason_0 : decode cX8_reason 0 = .ok (.aload_n 0, 1) := by decide +kernel
theorem dX8_reason_1 : decode cX8_reason 1 = .ok (.iload_n 1, 1) := by decide +kernel
theorem dX8_reason_2 : decode cX8_reason 2 = .ok (.invokevirtual 50, 3) := by decide +kernel
theorem dX8_reason_5 : decode cX8_reason 5 = .ok (.ifCond .ne 5, 3) := by decide +kernel
theorem dX8_reason_8 : decode cX8_reason 8 = .ok (.iconst 1, 1) := by decide +kernel
theorem dX8_reason_9 : decode cX8_reason 9 = .ok (.ireturn, 1) := by decide +kernel
theorem dX8_reason_10 : decode cX8_reason 10 = .ok (.aload_n 0, 1) := by decide +kernel
theorem dX8_reason_11 : decode cX8_reason 11 = .ok (.iload_n 1, 1) := by decide +kernel
theorem dX8_reason_12 : decode cX8_reason 12 = .ok (.invokevirtual 97, 3) := by decide +kernel
theorem dX8_reason_15 : decode cX8_reason 15 = .ok (.ifCond .eq 5, 3) := by decide +kernel
theorem dX8_reason_18 : decode cX8_reason 18 = .ok (.iconst 2, 1) := by decide +kernel
theorem dX8_reason_19 : decode cX8_reason 19 = .ok (.ireturn, 1) := by decide +kernel
theorem dX8_reason_20 : decode cX8_reason 20 = .ok (.aload_n 0, 1) := by decide +kernel
theorem dX8_reason_21 : decode cX8_reason 21 = .ok (.aload_n 0, 1) := by decide +kernel
theorem dX8_reason_22 : decode cX8_reason 22 = .ok (.iload_n 1, 1) := by decide +kernel
theorem dX8_reason_23 : decode cX8_reason 23 = .ok (.iconst 1, 1) := by decide +kernel
theorem dX8_reason_24 : decode cX8_reason 24 = .ok (.invokevirtual 42, 3) := by decide +kernel
theorem dX8_reason_27 : decode cX8_reason 27 = .ok (.invokevirtual 100, 3) := by decide +kernel
theorem dX8_reason_30 : decode cX8_reason 30 = .ok (.ifCond .ne 7, 3) := by decide +kernel
theorem dX8_reason_33 : decode cX8_reason 33 = .ok (.iconst 3, 1) := by decide +kernel
theorem dX8_reason_34 : decode cX8_reason 34 = .ok (.goto 33, 3) := by decide +kernel
theorem dX8_reason_37 : decode cX8_reason 37 = .ok (.aload_n 0, 1) := by decide +kernel
theorem dX8_reason_38 : decode cX8_reason 38 = .ok (.aload_n 0, 1) := by decide +kernel
theorem dX8_reason_39 : decode cX8_reason 39 = .ok (.iload_n 1, 1) := by decide +kernel
theorem dX8_reason_40 : decode cX8_reason 40 = .ok (.iconst 0, 1) := by decide +kernel
theorem dX8_reason_41 : decode cX8_reason 41 = .ok (.invokevirtual 42, 3) := by decide +kernel
theorem dX8_reason_44 : decode cX8_reason 44 = .ok (.invokevirtual 103, 3) := by decide +kernel
theorem dX8_reason_47 : decode cX8_reason 47 = .ok (.ifCond .ne 7, 3) := by decide +kernel
theorem dX8_reason_50 : decode cX8_reason 50 = .ok (.iconst 4, 1) := by decide +kernel
theorem dX8_reason_51 : decode cX8_reason 51 = .ok (.goto 16, 3) := by decide +kernel
theorem dX8_reason_54 : decode cX8_reason 54 = .ok (.aload_n 0, 1) := by decide +kernel
theorem dX8_reason_55 : decode cX8_reason 55 = .ok (.iload_n 1, 1) := by decide +kernel
theorem dX8_reason_56 : decode cX8_reason 56 = .ok (.invokevirtual 106, 3) := by decide +kernel
theorem dX8_reason_59 : decode cX8_reason 59 = .ok (.ifCond .eq 7, 3) := by decide +kernel
theorem dX8_reason_62 : decode cX8_reason 62 = .ok (.iconst 5, 1) := by decide +kernel
theorem dX8_reason_63 : decode cX8_reason 63 = .ok (.goto 4, 3) := by decide +kernel
theorem dX8_reason_66 : decode cX8_reason 66 = .ok (.iconst 0, 1) := by decide +kernel
theorem dX8_reason_67 : decode cX8_reason 67 = .ok (.ireturn, 1) := by decide +kernel
theorem dX8_refusedChain_0 : decode cX8_refusedChain 0 = .ok (.aload_n 0, 1) := by decide +kernel
theorem dX8_refusedChain_1 : decode cX8_refusedChain 1 = .ok (.iload_n 1, 1) := by decide +kernel
theorem dX8_refusedChain_2 : decode cX8_refusedChain 2 = .ok (.invokevirtual 109, 3) := by decide +kernel
theorem dX8_refusedChain_5 : decode cX8_refusedChain 5 = .ok (.ifCond .eq 43, 3) := by decide +kernel
theorem dX8_refusedChain_8 : decode cX8_refusedChain 8 = .ok (.aload_n 0, 1) := by decide +kernel
theorem dX8_refusedChain_9 : decode cX8_refusedChain 9 = .ok (.iload_n 2, 1) := by decide +kernel
theorem dX8_refusedChain_10 : decode cX8_refusedChain 10 = .ok (.invokevirtual 82, 3) := by decide +kernel
theorem dX8_refusedChain_13 : decode cX8_refusedChain 13 = .ok (.ifCond .eq 35, 3) := by decide +kernel
theorem dX8_refusedChain_16 : decode cX8_refusedChain 16 = .ok (.iload_n 3, 1) := by decide +kernel
theorem dX8_refusedChain_17 : decode cX8_refusedChain 17 = .ok (.iconst (-1), 1) := by decide +kernel
theorem dX8_refusedChain_18 : decode cX8_refusedChain 18 = .ok (.if_icmp .eq 11, 3) := by decide +kernel
theorem dX8_refusedChain_21 : decode cX8_refusedChain 21 = .ok (.aload_n 0, 1) := by decide +kernel
theorem dX8_refusedChain_22 : decode cX8_refusedChain 22 = .ok (.iload_n 3, 1) := by decide +kernel
theorem dX8_refusedChain_23 : decode cX8_refusedChain 23 = .ok (.invokevirtual 82, 3) := by decide +kernel
theorem dX8_refusedChain_26 : decode cX8_refusedChain 26 = .ok (.ifCond .eq 22, 3) := by decide +kernel
theorem dX8_refusedChain_29 : decode cX8_refusedChain 29 = .ok (.iload 4, 2) := by decide +kernel
theorem dX8_refusedChain_31 : decode cX8_refusedChain 31 = .ok (.iconst (-1), 1) := by decide +kernel
theorem dX8_refusedChain_32 : decode cX8_refusedChain 32 = .ok (.if_icmp .eq 12, 3) := by decide +kernel
theorem dX8_refusedChain_35 : decode cX8_refusedChain 35 = .ok (.aload_n 0, 1) := by decide +kernel
theorem dX8_refusedChain_36 : decode cX8_refusedChain 36 = .ok (.iload 4, 2) := by decide +kernel
theorem dX8_refusedChain_38 : decode cX8_refusedChain 38 = .ok (.invokevirtual 82, 3) := by decide +kernel
theorem dX8_refusedChain_41 : decode cX8_refusedChain 41 = .ok (.ifCond .eq 7, 3) := by decide +kernel
theorem dX8_refusedChain_44 : decode cX8_refusedChain 44 = .ok (.iconst 1, 1) := by decide +kernel
theorem dX8_refusedChain_45 : decode cX8_refusedChain 45 = .ok (.goto 4, 3) := by decide +kernel
theorem dX8_refusedChain_48 : decode cX8_refusedChain 48 = .ok (.iconst 0, 1) := by decide +kernel
theorem dX8_refusedChain_49 : decode cX8_refusedChain 49 = .ok (.istore 5, 2) := by decide +kernel
theorem dX8_refusedChain_51 : decode cX8_refusedChain 51 = .ok (.iload 5, 2) := by decide +kernel
theorem dX8_refusedChain_53 : decode cX8_refusedChain 53 = .ok (.ifCond .ne 5, 3) := by decide +kernel
theorem dX8_refusedChain_56 : decode cX8_refusedChain 56 = .ok (.iconst 1, 1) := by decide +kernel
theorem dX8_refusedChain_57 : decode cX8_refusedChain 57 = .ok (.ireturn, 1) := by decide +kernel
theorem dX8_refusedChain_58 : decode cX8_refusedChain 58 = .ok (.iload_n 3, 1) := by decide +kernel
theorem dX8_refusedChain_59 : decode cX8_refusedChain 59 = .ok (.iconst (-1), 1) := by decide +kernel
theorem dX8_refusedChain_60 : decode cX8_refusedChain 60 = .ok (.if_icmp .ne 9, 3) := by decide +kernel
theorem dX8_refusedChain_63 : decode cX8_refusedChain 63 = .ok (.iload 4, 2) := by decide +kernel
theorem dX8_refusedChain_65 : decode cX8_refusedChain 65 = .ok (.iconst (-1), 1) := by decide +kernel
theorem dX8_refusedChain_66 : decode cX8_refusedChain 66 = .ok (.if_icmp .ne 30, 3) := by decide +kernel
theorem dX8_refusedChain_69 : decode cX8_refusedChain 69 = .ok (.iload_n 2, 1) := by decide +kernel
theorem dX8_refusedChain_70 : decode cX8_refusedChain 70 = .ok (.iload_n 3, 1) := by decide +kernel
theorem dX8_refusedChain_71 : decode cX8_refusedChain 71 = .ok (.if_icmp .eq 25, 3) := by decide +kernel
theorem dX8_refusedChain_74 : decode cX8_refusedChain 74 = .ok (.iload 4, 2) := by decide +kernel
theorem dX8_refusedChain_76 : decode cX8_refusedChain 76 = .ok (.iconst (-1), 1) := by decide +kernel
theorem dX8_refusedChain_77 : decode cX8_refusedChain 77 = .ok (.if_icmp .eq 15, 3) := by decide +kernel
theorem dX8_refusedChain_80 : decode cX8_refusedChain 80 = .ok (.iload 4, 2) := by decide +kernel
theorem dX8_refusedChain_82 : decode cX8_refusedChain 82 = .ok (.iload_n 2, 1) := by decide +kernel
theorem dX8_refusedChain_83 : decode cX8_refusedChain 83 = .ok (.if_icmp .eq 13, 3) := by decide +kernel
theorem dX8_refusedChain_86 : decode cX8_refusedChain 86 = .ok (.iload 4, 2) := by decide +kernel
theorem dX8_refusedChain_88 : decode cX8_refusedChain 88 = .ok (.iload_n 3, 1) := by decide +kernel
theorem dX8_refusedChain_89 : decode cX8_refusedChain 89 = .ok (.if_icmp .eq 7, 3) := by decide +kernel
theorem dX8_refusedChain_92 : decode cX8_refusedChain 92 = .ok (.iconst 1, 1) := by decide +kernel
theorem dX8_refusedChain_93 : decode cX8_refusedChain 93 = .ok (.goto 4, 3) := by decide +kernel
theorem dX8_refusedChain_96 : decode cX8_refusedChain 96 = .ok (.iconst 0, 1) := by decide +kernel
theorem dX8_refusedChain_97 : decode cX8_refusedChain 97 = .ok (.istore 6, 2) := by decide +kernel
theorem dX8_refusedChain_99 : decode cX8_refusedChain 99 = .ok (.aload_n 0, 1) := by decide +kernel
theorem dX8_refusedChain_100 : decode cX8_refusedChain 100 = .ok (.iload_n 2, 1) := by decide +kernel
theorem dX8_refusedChain_101 : decode cX8_refusedChain 101 = .ok (.iload_n 3, 1) := by decide +kernel
theorem dX8_refusedChain_102 : decode cX8_refusedChain 102 = .ok (.iload 4, 2) := by decide +kernel
theorem dX8_refusedChain_104 : decode cX8_refusedChain 104 = .ok (.invokevirtual 112, 3) := by decide +kernel
theorem dX8_refusedChain_107 : decode cX8_refusedChain 107 = .ok (.iload 6, 2) := by decide +kernel
theorem dX8_refusedChain_109 : decode cX8_refusedChain 109 = .ok (.ifCond .eq 7, 3) := by decide +kernel
theorem dX8_refusedChain_112 : decode cX8_refusedChain 112 = .ok (.iconst 0, 1) := by decide +kernel
theorem dX8_refusedChain_113 : decode cX8_refusedChain 113 = .ok (.goto 4, 3) := by decide +kernel
theorem dX8_refusedChain_116 : decode cX8_refusedChain 116 = .ok (.iconst 2, 1) := by decide +kernel
theorem dX8_refusedChain_117 : decode cX8_refusedChain 117 = .ok (.ireturn, 1) := by decide +kernel
theorem dX8_assignTried_0 : decode cX8_assignTried 0 = .ok (.aload_n 0, 1) := by decide +kernel
theorem dX8_assignTried_1 : decode cX8_assignTried 1 = .ok (.iload_n 1, 1) := by decide +kernel
theorem dX8_assignTried_2 : decode cX8_assignTried 2 = .ok (.iconst 5, 1) := by decide +kernel
theorem dX8_assignTried_3 : decode cX8_assignTried 3 = .ok (.aload_n 0, 1) := by decide +kernel
theorem dX8_assignTried_4 : decode cX8_assignTried 4 = .ok (.getfield 91, 3) := by decide +kernel
theorem dX8_assignTried_7 : decode cX8_assignTried 7 = .ok (.invokevirtual 74, 3) := by decide +kernel
theorem dX8_assignTried_10 : decode cX8_assignTried 10 = .ok (.iconst 0, 1) := by decide +kernel
theorem dX8_assignTried_11 : decode cX8_assignTried 11 = .ok (.istore_n 2, 1) := by decide +kernel
theorem dX8_assignTried_12 : decode cX8_assignTried 12 = .ok (.iload_n 2, 1) := by decide +kernel
theorem dX8_assignTried_13 : decode cX8_assignTried 13 = .ok (.iconst 3, 1) := by decide +kernel
theorem dX8_assignTried_14 : decode cX8_assignTried 14 = .ok (.if_icmp .ge 36, 3) := by decide +kernel
theorem dX8_assignTried_17 : decode cX8_assignTried 17 = .ok (.aload_n 0, 1) := by decide +kernel
theorem dX8_assignTried_18 : decode cX8_assignTried 18 = .ok (.iload_n 1, 1) := by decide +kernel
theorem dX8_assignTried_19 : decode cX8_assignTried 19 = .ok (.bipush 6, 2) := by decide +kernel
theorem dX8_assignTried_21 : decode cX8_assignTried 21 = .ok (.iload_n 2, 1) := by decide +kernel
theorem dX8_assignTried_22 : decode cX8_assignTried 22 = .ok (.iadd, 1) := by decide +kernel
theorem dX8_assignTried_23 : decode cX8_assignTried 23 = .ok (.iload_n 2, 1) := by decide +kernel
theorem dX8_assignTried_24 : decode cX8_assignTried 24 = .ok (.aload_n 0, 1) := by decide +kernel
theorem dX8_assignTried_25 : decode cX8_assignTried 25 = .ok (.getfield 91, 3) := by decide +kernel
theorem dX8_assignTried_28 : decode cX8_assignTried 28 = .ok (.if_icmp .ge 12, 3) := by decide +kernel
theorem dX8_assignTried_31 : decode cX8_assignTried 31 = .ok (.aload_n 0, 1) := by decide +kernel
theorem dX8_assignTried_32 : decode cX8_assignTried 32 = .ok (.getfield 19, 3) := by decide +kernel
theorem dX8_assignTried_35 : decode cX8_assignTried 35 = .ok (.iload_n 2, 1) := by decide +kernel
theorem dX8_assignTried_36 : decode cX8_assignTried 36 = .ok (.iaload, 1) := by decide +kernel
theorem dX8_assignTried_37 : decode cX8_assignTried 37 = .ok (.goto 4, 3) := by decide +kernel
theorem dX8_assignTried_40 : decode cX8_assignTried 40 = .ok (.iconst (-1), 1) := by decide +kernel
theorem dX8_assignTried_41 : decode cX8_assignTried 41 = .ok (.invokevirtual 74, 3) := by decide +kernel
theorem dX8_assignTried_44 : decode cX8_assignTried 44 = .ok (.iinc 2 1, 3) := by decide +kernel
theorem dX8_assignTried_47 : decode cX8_assignTried 47 = .ok (.goto (-35), 3) := by decide +kernel
theorem dX8_assignTried_50 : decode cX8_assignTried 50 = .ok (.return_, 1) := by decide +kernel
theorem dX8_assign_0 : decode cX8_assign 0 = .ok (.aload_n 0, 1) := by decide +kernel
theorem dX8_assign_1 : decode cX8_assign 1 = .ok (.aload_n 0, 1) := by decide +kernel
theorem dX8_assign_2 : decode cX8_assign 2 = .ok (.iload_n 1, 1) := by decide +kernel
theorem dX8_assign_3 : decode cX8_assign 3 = .ok (.iload_n 2, 1) := by decide +kernel
theorem dX8_assign_4 : decode cX8_assign 4 = .ok (.iload_n 3, 1) := by decide +kernel
theorem dX8_assign_5 : decode cX8_assign 5 = .ok (.iload 4, 2) := by decide +kernel
theorem dX8_assign_7 : decode cX8_assign 7 = .ok (.invokevirtual 115, 3) := by decide +kernel
theorem dX8_assign_10 : decode cX8_assign 10 = .ok (.putfield 31, 3) := by decide +kernel
theorem dX8_assign_13 : decode cX8_assign 13 = .ok (.aload_n 0, 1) := by decide +kernel
theorem dX8_assign_14 : decode cX8_assign 14 = .ok (.getfield 31, 3) := by decide +kernel
theorem dX8_assign_17 : decode cX8_assign 17 = .ok (.ifCond .ne 20, 3) := by decide +kernel
theorem dX8_assign_20 : decode cX8_assign 20 = .ok (.aload_n 0, 1) := by decide +kernel
theorem dX8_assign_21 : decode cX8_assign 21 = .ok (.aload_n 0, 1) := by decide +kernel
theorem dX8_assign_22 : decode cX8_assign 22 = .ok (.iload_n 1, 1) := by decide +kernel
theorem dX8_assign_23 : decode cX8_assign 23 = .ok (.invokevirtual 118, 3) := by decide +kernel
theorem dX8_assign_26 : decode cX8_assign 26 = .ok (.ifCond .ne 7, 3) := by decide +kernel
theorem dX8_assign_29 : decode cX8_assign 29 = .ok (.iconst 0, 1) := by decide +kernel
theorem dX8_assign_30 : decode cX8_assign 30 = .ok (.goto 4, 3) := by decide +kernel
theorem dX8_assign_33 : decode cX8_assign 33 = .ok (.iconst 3, 1) := by decide +kernel
theorem dX8_assign_34 : decode cX8_assign 34 = .ok (.putfield 31, 3) := by decide +kernel
theorem dX8_assign_37 : decode cX8_assign 37 = .ok (.aload_n 0, 1) := by decide +kernel
theorem dX8_assign_38 : decode cX8_assign 38 = .ok (.getfield 31, 3) := by decide +kernel
theorem dX8_assign_41 : decode cX8_assign 41 = .ok (.ifCond .le 5, 3) := by decide +kernel
theorem dX8_assign_44 : decode cX8_assign 44 = .ok (.iconst 0, 1) := by decide +kernel
theorem dX8_assign_45 : decode cX8_assign 45 = .ok (.ireturn, 1) := by decide +kernel
theorem dX8_assign_46 : decode cX8_assign 46 = .ok (.aload_n 0, 1) := by decide +kernel
theorem dX8_assign_47 : decode cX8_assign 47 = .ok (.invokevirtual 71, 3) := by decide +kernel
theorem dX8_assign_50 : decode cX8_assign 50 = .ok (.aload_n 0, 1) := by decide +kernel
theorem dX8_assign_51 : decode cX8_assign 51 = .ok (.iload_n 1, 1) := by decide +kernel
theorem dX8_assign_52 : decode cX8_assign 52 = .ok (.invokevirtual 121, 3) := by decide +kernel
theorem dX8_assign_55 : decode cX8_assign 55 = .ok (.aload_n 0, 1) := by decide +kernel
theorem dX8_assign_56 : decode cX8_assign 56 = .ok (.iload_n 1, 1) := by decide +kernel
theorem dX8_assign_57 : decode cX8_assign 57 = .ok (.iconst 2, 1) := by decide +kernel
theorem dX8_assign_58 : decode cX8_assign 58 = .ok (.invokevirtual 65, 3) := by decide +kernel
theorem dX8_assign_61 : decode cX8_assign 61 = .ok (.ireturn, 1) := by decide +kernel
theorem dX8_isOpen_0 : decode cX8_isOpen 0 = .ok (.aload_n 0, 1) := by decide +kernel
theorem dX8_isOpen_1 : decode cX8_isOpen 1 = .ok (.iload_n 1, 1) := by decide +kernel
theorem dX8_isOpen_2 : decode cX8_isOpen 2 = .ok (.invokevirtual 50, 3) := by decide +kernel
theorem dX8_isOpen_5 : decode cX8_isOpen 5 = .ok (.ifCond .eq 15, 3) := by decide +kernel
theorem dX8_isOpen_8 : decode cX8_isOpen 8 = .ok (.aload_n 0, 1) := by decide +kernel
theorem dX8_isOpen_9 : decode cX8_isOpen 9 = .ok (.iload_n 1, 1) := by decide +kernel
theorem dX8_isOpen_10 : decode cX8_isOpen 10 = .ok (.invokevirtual 97, 3) := by decide +kernel
theorem dX8_isOpen_13 : decode cX8_isOpen 13 = .ok (.ifCond .ne 7, 3) := by decide +kernel
theorem dX8_isOpen_16 : decode cX8_isOpen 16 = .ok (.iconst 1, 1) := by decide +kernel
theorem dX8_isOpen_17 : decode cX8_isOpen 17 = .ok (.goto 4, 3) := by decide +kernel
theorem dX8_isOpen_20 : decode cX8_isOpen 20 = .ok (.iconst 0, 1) := by decide +kernel
theorem dX8_isOpen_21 : decode cX8_isOpen 21 = .ok (.ireturn, 1) := by decide +kernel
theorem dX8_release_0 : decode cX8_release 0 = .ok (.aload_n 0, 1) := by decide +kernel
theorem dX8_release_1 : decode cX8_release 1 = .ok (.aload_n 0, 1) := by decide +kernel
theorem dX8_release_2 : decode cX8_release 2 = .ok (.iload_n 1, 1) := by decide +kernel
theorem dX8_release_3 : decode cX8_release 3 = .ok (.invokevirtual 109, 3) := by decide +kernel
theorem dX8_release_6 : decode cX8_release 6 = .ok (.ifCond .ne 7, 3) := by decide +kernel
theorem dX8_release_9 : decode cX8_release 9 = .ok (.iconst 1, 1) := by decide +kernel
theorem dX8_release_10 : decode cX8_release 10 = .ok (.goto 16, 3) := by decide +kernel
theorem dX8_release_13 : decode cX8_release 13 = .ok (.aload_n 0, 1) := by decide +kernel
theorem dX8_release_14 : decode cX8_release 14 = .ok (.iload_n 1, 1) := by decide +kernel
theorem dX8_release_15 : decode cX8_release 15 = .ok (.invokevirtual 125, 3) := by decide +kernel
theorem dX8_release_18 : decode cX8_release 18 = .ok (.ifCond .eq 7, 3) := by decide +kernel
theorem dX8_release_21 : decode cX8_release 21 = .ok (.iconst 0, 1) := by decide +kernel
theorem dX8_release_22 : decode cX8_release 22 = .ok (.goto 4, 3) := by decide +kernel
theorem dX8_release_25 : decode cX8_release 25 = .ok (.iconst 2, 1) := by decide +kernel
theorem dX8_release_26 : decode cX8_release 26 = .ok (.putfield 31, 3) := by decide +kernel
theorem dX8_release_29 : decode cX8_release 29 = .ok (.aload_n 0, 1) := by decide +kernel
theorem dX8_release_30 : decode cX8_release 30 = .ok (.getfield 31, 3) := by decide +kernel
theorem dX8_release_33 : decode cX8_release 33 = .ok (.ifCond .le 5, 3) := by decide +kernel
theorem dX8_release_36 : decode cX8_release 36 = .ok (.iconst 0, 1) := by decide +kernel
theorem dX8_release_37 : decode cX8_release 37 = .ok (.ireturn, 1) := by decide +kernel
theorem dX8_release_38 : decode cX8_release 38 = .ok (.aload_n 0, 1) := by decide +kernel
theorem dX8_release_39 : decode cX8_release 39 = .ok (.invokevirtual 71, 3) := by decide +kernel
theorem dX8_release_42 : decode cX8_release 42 = .ok (.aload_n 0, 1) := by decide +kernel
theorem dX8_release_43 : decode cX8_release 43 = .ok (.iload_n 1, 1) := by decide +kernel
theorem dX8_release_44 : decode cX8_release 44 = .ok (.iconst 5, 1) := by decide +kernel
theorem dX8_release_45 : decode cX8_release 45 = .ok (.invokevirtual 42, 3) := by decide +kernel
theorem dX8_release_48 : decode cX8_release 48 = .ok (.istore_n 2, 1) := by decide +kernel
theorem dX8_release_49 : decode cX8_release 49 = .ok (.aload_n 0, 1) := by decide +kernel
theorem dX8_release_50 : decode cX8_release 50 = .ok (.iconst 0, 1) := by decide +kernel
theorem dX8_release_51 : decode cX8_release 51 = .ok (.putfield 91, 3) := by decide +kernel
theorem dX8_release_54 : decode cX8_release 54 = .ok (.aload_n 0, 1) := by decide +kernel
theorem dX8_release_55 : decode cX8_release 55 = .ok (.iload_n 1, 1) := by decide +kernel
theorem dX8_release_56 : decode cX8_release 56 = .ok (.invokevirtual 121, 3) := by decide +kernel
theorem dX8_release_59 : decode cX8_release 59 = .ok (.iload_n 2, 1) := by decide +kernel
theorem dX8_release_60 : decode cX8_release 60 = .ok (.ireturn, 1) := by decide +kernel
theorem dX8_swap_0 : decode cX8_swap 0 = .ok (.aload_n 0, 1) := by decide +kernel
theorem dX8_swap_1 : decode cX8_swap 1 = .ok (.iload_n 1, 1) := by decide +kernel
theorem dX8_swap_2 : decode cX8_swap 2 = .ok (.invokevirtual 109, 3) := by decide +kernel
theorem dX8_swap_5 : decode cX8_swap 5 = .ok (.ifCond .eq 31, 3) := by decide +kernel
theorem dX8_swap_8 : decode cX8_swap 8 = .ok (.iload_n 2, 1) := by decide +kernel
theorem dX8_swap_9 : decode cX8_swap 9 = .ok (.iconst 0, 1) := by decide +kernel
theorem dX8_swap_10 : decode cX8_swap 10 = .ok (.aload_n 0, 1) := by decide +kernel
theorem dX8_swap_11 : decode cX8_swap 11 = .ok (.iload_n 1, 1) := by decide +kernel
theorem dX8_swap_12 : decode cX8_swap 12 = .ok (.iconst 5, 1) := by decide +kernel
theorem dX8_swap_13 : decode cX8_swap 13 = .ok (.invokevirtual 42, 3) := by decide +kernel
theorem dX8_swap_16 : decode cX8_swap 16 = .ok (.iconst 1, 1) := by decide +kernel
theorem dX8_swap_17 : decode cX8_swap 17 = .ok (.isub, 1) := by decide +kernel
theorem dX8_swap_18 : decode cX8_swap 18 = .ok (.invokestatic 38, 3) := by decide +kernel
theorem dX8_swap_21 : decode cX8_swap 21 = .ok (.ifCond .eq 15, 3) := by decide +kernel
theorem dX8_swap_24 : decode cX8_swap 24 = .ok (.aload_n 0, 1) := by decide +kernel
theorem dX8_swap_25 : decode cX8_swap 25 = .ok (.iload_n 3, 1) := by decide +kernel
theorem dX8_swap_26 : decode cX8_swap 26 = .ok (.invokevirtual 82, 3) := by decide +kernel
theorem dX8_swap_29 : decode cX8_swap 29 = .ok (.ifCond .eq 7, 3) := by decide +kernel
theorem dX8_swap_32 : decode cX8_swap 32 = .ok (.iconst 1, 1) := by decide +kernel
theorem dX8_swap_33 : decode cX8_swap 33 = .ok (.goto 4, 3) := by decide +kernel
theorem dX8_swap_36 : decode cX8_swap 36 = .ok (.iconst 0, 1) := by decide +kernel
theorem dX8_swap_37 : decode cX8_swap 37 = .ok (.istore 4, 2) := by decide +kernel
theorem dX8_swap_39 : decode cX8_swap 39 = .ok (.aload_n 0, 1) := by decide +kernel
theorem dX8_swap_40 : decode cX8_swap 40 = .ok (.iload 4, 2) := by decide +kernel
theorem dX8_swap_42 : decode cX8_swap 42 = .ok (.ifCond .ne 7, 3) := by decide +kernel
theorem dX8_swap_45 : decode cX8_swap 45 = .ok (.iconst 1, 1) := by decide +kernel
theorem dX8_swap_46 : decode cX8_swap 46 = .ok (.goto 17, 3) := by decide +kernel
theorem dX8_swap_49 : decode cX8_swap 49 = .ok (.aload_n 0, 1) := by decide +kernel
theorem dX8_swap_50 : decode cX8_swap 50 = .ok (.iload_n 3, 1) := by decide +kernel
theorem dX8_swap_51 : decode cX8_swap 51 = .ok (.iload_n 1, 1) := by decide +kernel
theorem dX8_swap_52 : decode cX8_swap 52 = .ok (.invokevirtual 54, 3) := by decide +kernel
theorem dX8_swap_55 : decode cX8_swap 55 = .ok (.ifCond .eq 7, 3) := by decide +kernel
theorem dX8_swap_58 : decode cX8_swap 58 = .ok (.iconst 2, 1) := by decide +kernel
theorem dX8_swap_59 : decode cX8_swap 59 = .ok (.goto 4, 3) := by decide +kernel
theorem dX8_swap_62 : decode cX8_swap 62 = .ok (.iconst 0, 1) := by decide +kernel
theorem dX8_swap_63 : decode cX8_swap 63 = .ok (.putfield 31, 3) := by decide +kernel
theorem dX8_swap_66 : decode cX8_swap 66 = .ok (.aload_n 0, 1) := by decide +kernel
theorem dX8_swap_67 : decode cX8_swap 67 = .ok (.getfield 31, 3) := by decide +kernel
theorem dX8_swap_70 : decode cX8_swap 70 = .ok (.ifCond .ne 52, 3) := by decide +kernel
theorem dX8_swap_73 : decode cX8_swap 73 = .ok (.aload_n 0, 1) := by decide +kernel
theorem dX8_swap_74 : decode cX8_swap 74 = .ok (.aload_n 0, 1) := by decide +kernel
theorem dX8_swap_75 : decode cX8_swap 75 = .ok (.iload_n 1, 1) := by decide +kernel
theorem dX8_swap_76 : decode cX8_swap 76 = .ok (.bipush 6, 2) := by decide +kernel
theorem dX8_swap_78 : decode cX8_swap 78 = .ok (.invokevirtual 42, 3) := by decide +kernel
theorem dX8_swap_81 : decode cX8_swap 81 = .ok (.aload_n 0, 1) := by decide +kernel
theorem dX8_swap_82 : decode cX8_swap 82 = .ok (.iload_n 1, 1) := by decide +kernel
theorem dX8_swap_83 : decode cX8_swap 83 = .ok (.bipush 7, 2) := by decide +kernel
theorem dX8_swap_85 : decode cX8_swap 85 = .ok (.invokevirtual 42, 3) := by decide +kernel
theorem dX8_swap_88 : decode cX8_swap 88 = .ok (.aload_n 0, 1) := by decide +kernel
theorem dX8_swap_89 : decode cX8_swap 89 = .ok (.iload_n 1, 1) := by decide +kernel
theorem dX8_swap_90 : decode cX8_swap 90 = .ok (.bipush 8, 2) := by decide +kernel
theorem dX8_swap_92 : decode cX8_swap 92 = .ok (.invokevirtual 42, 3) := by decide +kernel
theorem dX8_swap_95 : decode cX8_swap 95 = .ok (.invokevirtual 112, 3) := by decide +kernel
theorem dX8_swap_98 : decode cX8_swap 98 = .ok (.aload_n 0, 1) := by decide +kernel
theorem dX8_swap_99 : decode cX8_swap 99 = .ok (.getfield 19, 3) := by decide +kernel
theorem dX8_swap_102 : decode cX8_swap 102 = .ok (.iload_n 2, 1) := by decide +kernel
theorem dX8_swap_103 : decode cX8_swap 103 = .ok (.iload_n 3, 1) := by decide +kernel
theorem dX8_swap_104 : decode cX8_swap 104 = .ok (.iastore, 1) := by decide +kernel
theorem dX8_swap_105 : decode cX8_swap 105 = .ok (.aload_n 0, 1) := by decide +kernel
theorem dX8_swap_106 : decode cX8_swap 106 = .ok (.aload_n 0, 1) := by decide +kernel
theorem dX8_swap_107 : decode cX8_swap 107 = .ok (.iload_n 1, 1) := by decide +kernel
theorem dX8_swap_108 : decode cX8_swap 108 = .ok (.invokevirtual 118, 3) := by decide +kernel
theorem dX8_swap_111 : decode cX8_swap 111 = .ok (.ifCond .ne 7, 3) := by decide +kernel
theorem dX8_swap_114 : decode cX8_swap 114 = .ok (.iconst 0, 1) := by decide +kernel
theorem dX8_swap_115 : decode cX8_swap 115 = .ok (.goto 4, 3) := by decide +kernel
theorem dX8_swap_118 : decode cX8_swap 118 = .ok (.iconst 3, 1) := by decide +kernel
theorem dX8_swap_119 : decode cX8_swap 119 = .ok (.putfield 31, 3) := by decide +kernel
theorem dX8_swap_122 : decode cX8_swap 122 = .ok (.aload_n 0, 1) := by decide +kernel
theorem dX8_swap_123 : decode cX8_swap 123 = .ok (.getfield 31, 3) := by decide +kernel
theorem dX8_swap_126 : decode cX8_swap 126 = .ok (.ifCond .le 5, 3) := by decide +kernel
theorem dX8_swap_129 : decode cX8_swap 129 = .ok (.iconst 0, 1) := by decide +kernel
theorem dX8_swap_130 : decode cX8_swap 130 = .ok (.ireturn, 1) := by decide +kernel
theorem dX8_swap_131 : decode cX8_swap 131 = .ok (.aload_n 0, 1) := by decide +kernel
theorem dX8_swap_132 : decode cX8_swap 132 = .ok (.invokevirtual 71, 3) := by decide +kernel
theorem dX8_swap_135 : decode cX8_swap 135 = .ok (.aload_n 0, 1) := by decide +kernel
theorem dX8_swap_136 : decode cX8_swap 136 = .ok (.iload_n 1, 1) := by decide +kernel
theorem dX8_swap_137 : decode cX8_swap 137 = .ok (.bipush 6, 2) := by decide +kernel
theorem dX8_swap_139 : decode cX8_swap 139 = .ok (.iload_n 2, 1) := by decide +kernel
theorem dX8_swap_140 : decode cX8_swap 140 = .ok (.iadd, 1) := by decide +kernel
theorem dX8_swap_141 : decode cX8_swap 141 = .ok (.invokevirtual 42, 3) := by decide +kernel
theorem dX8_swap_144 : decode cX8_swap 144 = .ok (.istore 5, 2) := by decide +kernel
theorem dX8_swap_146 : decode cX8_swap 146 = .ok (.aload_n 0, 1) := by decide +kernel
theorem dX8_swap_147 : decode cX8_swap 147 = .ok (.iload_n 1, 1) := by decide +kernel
theorem dX8_swap_148 : decode cX8_swap 148 = .ok (.bipush 6, 2) := by decide +kernel
theorem dX8_swap_150 : decode cX8_swap 150 = .ok (.iload_n 2, 1) := by decide +kernel
theorem dX8_swap_151 : decode cX8_swap 151 = .ok (.iadd, 1) := by decide +kernel
theorem dX8_swap_152 : decode cX8_swap 152 = .ok (.iload_n 3, 1) := by decide +kernel
theorem dX8_swap_153 : decode cX8_swap 153 = .ok (.invokevirtual 74, 3) := by decide +kernel
theorem dX8_swap_156 : decode cX8_swap 156 = .ok (.iload 5, 2) := by decide +kernel
theorem dX8_swap_158 : decode cX8_swap 158 = .ok (.ireturn, 1) := by decide +kernel
theorem dX8_vacate_0 : decode cX8_vacate 0 = .ok (.aload_n 0, 1) := by decide +kernel
theorem dX8_vacate_1 : decode cX8_vacate 1 = .ok (.aload_n 0, 1) := by decide +kernel
theorem dX8_vacate_2 : decode cX8_vacate 2 = .ok (.iload_n 1, 1) := by decide +kernel
theorem dX8_vacate_3 : decode cX8_vacate 3 = .ok (.invokevirtual 109, 3) := by decide +kernel
theorem dX8_vacate_6 : decode cX8_vacate 6 = .ok (.ifCond .ne 7, 3) := by decide +kernel
theorem dX8_vacate_9 : decode cX8_vacate 9 = .ok (.iconst 1, 1) := by decide +kernel
theorem dX8_vacate_10 : decode cX8_vacate 10 = .ok (.goto 16, 3) := by decide +kernel
theorem dX8_vacate_13 : decode cX8_vacate 13 = .ok (.aload_n 0, 1) := by decide +kernel
theorem dX8_vacate_14 : decode cX8_vacate 14 = .ok (.iload_n 1, 1) := by decide +kernel
theorem dX8_vacate_15 : decode cX8_vacate 15 = .ok (.invokevirtual 125, 3) := by decide +kernel
theorem dX8_vacate_18 : decode cX8_vacate 18 = .ok (.ifCond .eq 7, 3) := by decide +kernel
theorem dX8_vacate_21 : decode cX8_vacate 21 = .ok (.iconst 0, 1) := by decide +kernel
theorem dX8_vacate_22 : decode cX8_vacate 22 = .ok (.goto 4, 3) := by decide +kernel
theorem dX8_vacate_25 : decode cX8_vacate 25 = .ok (.iconst 2, 1) := by decide +kernel
theorem dX8_vacate_26 : decode cX8_vacate 26 = .ok (.putfield 31, 3) := by decide +kernel
theorem dX8_vacate_29 : decode cX8_vacate 29 = .ok (.aload_n 0, 1) := by decide +kernel
theorem dX8_vacate_30 : decode cX8_vacate 30 = .ok (.getfield 31, 3) := by decide +kernel
theorem dX8_vacate_33 : decode cX8_vacate 33 = .ok (.ifCond .le 5, 3) := by decide +kernel
theorem dX8_vacate_36 : decode cX8_vacate 36 = .ok (.iconst 0, 1) := by decide +kernel
theorem dX8_vacate_37 : decode cX8_vacate 37 = .ok (.ireturn, 1) := by decide +kernel
theorem dX8_vacate_38 : decode cX8_vacate 38 = .ok (.aload_n 0, 1) := by decide +kernel
theorem dX8_vacate_39 : decode cX8_vacate 39 = .ok (.invokevirtual 71, 3) := by decide +kernel
theorem dX8_vacate_42 : decode cX8_vacate 42 = .ok (.aload_n 0, 1) := by decide +kernel
theorem dX8_vacate_43 : decode cX8_vacate 43 = .ok (.iload_n 1, 1) := by decide +kernel
theorem dX8_vacate_44 : decode cX8_vacate 44 = .ok (.aload_n 0, 1) := by decide +kernel
theorem dX8_vacate_45 : decode cX8_vacate 45 = .ok (.aload_n 0, 1) := by decide +kernel
theorem dX8_vacate_46 : decode cX8_vacate 46 = .ok (.iload_n 1, 1) := by decide +kernel
theorem dX8_vacate_47 : decode cX8_vacate 47 = .ok (.iconst 2, 1) := by decide +kernel
theorem dX8_vacate_48 : decode cX8_vacate 48 = .ok (.invokevirtual 42, 3) := by decide +kernel
theorem dX8_vacate_51 : decode cX8_vacate 51 = .ok (.aload_n 0, 1) := by decide +kernel
theorem dX8_vacate_52 : decode cX8_vacate 52 = .ok (.getfield 7, 3) := by decide +kernel
theorem dX8_vacate_55 : decode cX8_vacate 55 = .ok (.bipush 9, 2) := by decide +kernel
theorem dX8_vacate_57 : decode cX8_vacate 57 = .ok (.iaload, 1) := by decide +kernel
theorem dX8_vacate_58 : decode cX8_vacate 58 = .ok (.isub, 1) := by decide +kernel
theorem dX8_vacate_59 : decode cX8_vacate 59 = .ok (.invokevirtual 128, 3) := by decide +kernel
theorem dX8_vacate_62 : decode cX8_vacate 62 = .ok (.invokevirtual 131, 3) := by decide +kernel
theorem dX8_vacate_65 : decode cX8_vacate 65 = .ok (.istore_n 2, 1) := by decide +kernel
theorem dX8_vacate_66 : decode cX8_vacate 66 = .ok (.aload_n 0, 1) := by decide +kernel
theorem dX8_vacate_67 : decode cX8_vacate 67 = .ok (.getfield 7, 3) := by decide +kernel
theorem dX8_vacate_70 : decode cX8_vacate 70 = .ok (.bipush 11, 2) := by decide +kernel
theorem dX8_vacate_72 : decode cX8_vacate 72 = .ok (.dup2, 1) := by decide +kernel
theorem dX8_vacate_73 : decode cX8_vacate 73 = .ok (.iaload, 1) := by decide +kernel
theorem dX8_vacate_74 : decode cX8_vacate 74 = .ok (.iload_n 2, 1) := by decide +kernel
theorem dX8_vacate_75 : decode cX8_vacate 75 = .ok (.iadd, 1) := by decide +kernel
theorem dX8_vacate_76 : decode cX8_vacate 76 = .ok (.iastore, 1) := by decide +kernel
theorem dX8_vacate_77 : decode cX8_vacate 77 = .ok (.aload_n 0, 1) := by decide +kernel
theorem dX8_vacate_78 : decode cX8_vacate 78 = .ok (.iload_n 1, 1) := by decide +kernel
theorem dX8_vacate_79 : decode cX8_vacate 79 = .ok (.iconst 4, 1) := by decide +kernel
theorem dX8_vacate_80 : decode cX8_vacate 80 = .ok (.iconst 3, 1) := by decide +kernel
theorem dX8_vacate_81 : decode cX8_vacate 81 = .ok (.invokevirtual 74, 3) := by decide +kernel
theorem dX8_vacate_84 : decode cX8_vacate 84 = .ok (.iload_n 2, 1) := by decide +kernel
theorem dX8_vacate_85 : decode cX8_vacate 85 = .ok (.ireturn, 1) := by decide +kernel
theorem dX8_worksIn_0 : decode cX8_worksIn 0 = .ok (.iconst (-1), 1) := by decide +kernel
theorem dX8_worksIn_1 : decode cX8_worksIn 1 = .ok (.istore_n 2, 1) := by decide +kernel
theorem dX8_worksIn_2 : decode cX8_worksIn 2 = .ok (.aload_n 0, 1) := by decide +kernel
theorem dX8_worksIn_3 : decode cX8_worksIn 3 = .ok (.getfield 7, 3) := by decide +kernel
theorem dX8_worksIn_6 : decode cX8_worksIn 6 = .ok (.bipush 8, 2) := by decide +kernel
theorem dX8_worksIn_8 : decode cX8_worksIn 8 = .ok (.iaload, 1) := by decide +kernel
theorem dX8_worksIn_9 : decode cX8_worksIn 9 = .ok (.iconst 1, 1) := by decide +kernel
theorem dX8_worksIn_10 : decode cX8_worksIn 10 = .ok (.isub, 1) := by decide +kernel
theorem dX8_worksIn_11 : decode cX8_worksIn 11 = .ok (.istore_n 3, 1) := by decide +kernel
theorem dX8_worksIn_12 : decode cX8_worksIn 12 = .ok (.iload_n 3, 1) := by decide +kernel
theorem dX8_worksIn_13 : decode cX8_worksIn 13 = .ok (.ifCond .lt 40, 3) := by decide +kernel
theorem dX8_worksIn_16 : decode cX8_worksIn 16 = .ok (.aload_n 0, 1) := by decide +kernel
theorem dX8_worksIn_17 : decode cX8_worksIn 17 = .ok (.iload_n 3, 1) := by decide +kernel
theorem dX8_worksIn_18 : decode cX8_worksIn 18 = .ok (.invokevirtual 50, 3) := by decide +kernel
theorem dX8_worksIn_21 : decode cX8_worksIn 21 = .ok (.ifCond .eq 24, 3) := by decide +kernel
theorem dX8_worksIn_24 : decode cX8_worksIn 24 = .ok (.aload_n 0, 1) := by decide +kernel
theorem dX8_worksIn_25 : decode cX8_worksIn 25 = .ok (.iload_n 3, 1) := by decide +kernel
theorem dX8_worksIn_26 : decode cX8_worksIn 26 = .ok (.invokevirtual 97, 3) := by decide +kernel
theorem dX8_worksIn_29 : decode cX8_worksIn 29 = .ok (.ifCond .eq 16, 3) := by decide +kernel
theorem dX8_worksIn_32 : decode cX8_worksIn 32 = .ok (.aload_n 0, 1) := by decide +kernel
theorem dX8_worksIn_33 : decode cX8_worksIn 33 = .ok (.iload_n 1, 1) := by decide +kernel
theorem dX8_worksIn_34 : decode cX8_worksIn 34 = .ok (.iload_n 3, 1) := by decide +kernel
theorem dX8_worksIn_35 : decode cX8_worksIn 35 = .ok (.invokevirtual 54, 3) := by decide +kernel
theorem dX8_worksIn_38 : decode cX8_worksIn 38 = .ok (.ifCond .eq 7, 3) := by decide +kernel
theorem dX8_worksIn_41 : decode cX8_worksIn 41 = .ok (.iload_n 3, 1) := by decide +kernel
theorem dX8_worksIn_42 : decode cX8_worksIn 42 = .ok (.goto 4, 3) := by decide +kernel
theorem dX8_worksIn_45 : decode cX8_worksIn 45 = .ok (.iload_n 2, 1) := by decide +kernel
theorem dX8_worksIn_46 : decode cX8_worksIn 46 = .ok (.istore_n 2, 1) := by decide +kernel
theorem dX8_worksIn_47 : decode cX8_worksIn 47 = .ok (.iinc 3 (-1), 3) := by decide +kernel
theorem dX8_worksIn_50 : decode cX8_worksIn 50 = .ok (.goto (-38), 3) := by decide +kernel
theorem dX8_worksIn_53 : decode cX8_worksIn 53 = .ok (.iload_n 2, 1) := by decide +kernel
theorem dX8_worksIn_54 : decode cX8_worksIn 54 = .ok (.ireturn, 1) := by decide +kernel
theorem dX8_tireAll_0 : decode cX8_tireAll 0 = .ok (.iconst 0, 1) := by decide +kernel
theorem dX8_tireAll_1 : decode cX8_tireAll 1 = .ok (.istore_n 1, 1) := by decide +kernel
theorem dX8_tireAll_2 : decode cX8_tireAll 2 = .ok (.iload_n 1, 1) := by decide +kernel
theorem dX8_tireAll_3 : decode cX8_tireAll 3 = .ok (.aload_n 0, 1) := by decide +kernel
theorem dX8_tireAll_4 : decode cX8_tireAll 4 = .ok (.getfield 7, 3) := by decide +kernel
theorem dX8_tireAll_7 : decode cX8_tireAll 7 = .ok (.bipush 7, 2) := by decide +kernel
theorem dX8_tireAll_9 : decode cX8_tireAll 9 = .ok (.iaload, 1) := by decide +kernel
theorem dX8_tireAll_10 : decode cX8_tireAll 10 = .ok (.if_icmp .ge 116, 3) := by decide +kernel
theorem dX8_tireAll_13 : decode cX8_tireAll 13 = .ok (.aload_n 0, 1) := by decide +kernel
theorem dX8_tireAll_14 : decode cX8_tireAll 14 = .ok (.iload_n 1, 1) := by decide +kernel
theorem dX8_tireAll_15 : decode cX8_tireAll 15 = .ok (.invokevirtual 134, 3) := by decide +kernel
theorem dX8_tireAll_18 : decode cX8_tireAll 18 = .ok (.istore_n 2, 1) := by decide +kernel
theorem dX8_tireAll_19 : decode cX8_tireAll 19 = .ok (.aload_n 0, 1) := by decide +kernel
theorem dX8_tireAll_20 : decode cX8_tireAll 20 = .ok (.getfield 7, 3) := by decide +kernel
theorem dX8_tireAll_23 : decode cX8_tireAll 23 = .ok (.bipush 43, 2) := by decide +kernel
theorem dX8_tireAll_25 : decode cX8_tireAll 25 = .ok (.iload_n 1, 1) := by decide +kernel
theorem dX8_tireAll_26 : decode cX8_tireAll 26 = .ok (.iadd, 1) := by decide +kernel
theorem dX8_tireAll_27 : decode cX8_tireAll 27 = .ok (.iaload, 1) := by decide +kernel
theorem dX8_tireAll_28 : decode cX8_tireAll 28 = .ok (.istore_n 3, 1) := by decide +kernel
theorem dX8_tireAll_29 : decode cX8_tireAll 29 = .ok (.iload_n 2, 1) := by decide +kernel
theorem dX8_tireAll_30 : decode cX8_tireAll 30 = .ok (.iconst (-1), 1) := by decide +kernel
theorem dX8_tireAll_31 : decode cX8_tireAll 31 = .ok (.if_icmp .ne 15, 3) := by decide +kernel
theorem dX8_tireAll_34 : decode cX8_tireAll 34 = .ok (.iload_n 3, 1) := by decide +kernel
theorem dX8_tireAll_35 : decode cX8_tireAll 35 = .ok (.aload_n 0, 1) := by decide +kernel
theorem dX8_tireAll_36 : decode cX8_tireAll 36 = .ok (.getfield 7, 3) := by decide +kernel
theorem dX8_tireAll_39 : decode cX8_tireAll 39 = .ok (.iconst 2, 1) := by decide +kernel
theorem dX8_tireAll_40 : decode cX8_tireAll 40 = .ok (.iaload, 1) := by decide +kernel
theorem dX8_tireAll_41 : decode cX8_tireAll 41 = .ok (.isub, 1) := by decide +kernel
theorem dX8_tireAll_42 : decode cX8_tireAll 42 = .ok (.istore_n 3, 1) := by decide +kernel
theorem dX8_tireAll_43 : decode cX8_tireAll 43 = .ok (.goto 46, 3) := by decide +kernel
theorem dX8_tireAll_46 : decode cX8_tireAll 46 = .ok (.iload_n 3, 1) := by decide +kernel
theorem dX8_tireAll_47 : decode cX8_tireAll 47 = .ok (.aload_n 0, 1) := by decide +kernel
theorem dX8_tireAll_48 : decode cX8_tireAll 48 = .ok (.getfield 7, 3) := by decide +kernel
theorem dX8_tireAll_51 : decode cX8_tireAll 51 = .ok (.iconst 0, 1) := by decide +kernel
theorem dX8_tireAll_52 : decode cX8_tireAll 52 = .ok (.iaload, 1) := by decide +kernel
theorem dX8_tireAll_53 : decode cX8_tireAll 53 = .ok (.aload_n 0, 1) := by decide +kernel
theorem dX8_tireAll_54 : decode cX8_tireAll 54 = .ok (.iload_n 2, 1) := by decide +kernel
theorem dX8_tireAll_55 : decode cX8_tireAll 55 = .ok (.iconst 5, 1) := by decide +kernel
theorem dX8_tireAll_56 : decode cX8_tireAll 56 = .ok (.invokevirtual 42, 3) := by decide +kernel
theorem dX8_tireAll_59 : decode cX8_tireAll 59 = .ok (.iconst 1, 1) := by decide +kernel
theorem dX8_tireAll_60 : decode cX8_tireAll 60 = .ok (.if_icmp .le 12, 3) := by decide +kernel
theorem dX8_tireAll_63 : decode cX8_tireAll 63 = .ok (.aload_n 0, 1) := by decide +kernel
theorem dX8_tireAll_64 : decode cX8_tireAll 64 = .ok (.getfield 7, 3) := by decide +kernel
theorem dX8_tireAll_67 : decode cX8_tireAll 67 = .ok (.iconst 1, 1) := by decide +kernel
theorem dX8_tireAll_68 : decode cX8_tireAll 68 = .ok (.iaload, 1) := by decide +kernel
theorem dX8_tireAll_69 : decode cX8_tireAll 69 = .ok (.goto 4, 3) := by decide +kernel
theorem dX8_tireAll_72 : decode cX8_tireAll 72 = .ok (.iconst 0, 1) := by decide +kernel
theorem dX8_tireAll_73 : decode cX8_tireAll 73 = .ok (.iadd, 1) := by decide +kernel
theorem dX8_tireAll_74 : decode cX8_tireAll 74 = .ok (.iadd, 1) := by decide +kernel
theorem dX8_tireAll_75 : decode cX8_tireAll 75 = .ok (.istore_n 3, 1) := by decide +kernel
theorem dX8_tireAll_76 : decode cX8_tireAll 76 = .ok (.aload_n 0, 1) := by decide +kernel
theorem dX8_tireAll_77 : decode cX8_tireAll 77 = .ok (.getfield 7, 3) := by decide +kernel
theorem dX8_tireAll_80 : decode cX8_tireAll 80 = .ok (.bipush 63, 2) := by decide +kernel
theorem dX8_tireAll_82 : decode cX8_tireAll 82 = .ok (.iload_n 1, 1) := by decide +kernel
theorem dX8_tireAll_83 : decode cX8_tireAll 83 = .ok (.iadd, 1) := by decide +kernel
theorem dX8_tireAll_84 : decode cX8_tireAll 84 = .ok (.dup2, 1) := by decide +kernel
theorem dX8_tireAll_85 : decode cX8_tireAll 85 = .ok (.iaload, 1) := by decide +kernel
theorem dX8_tireAll_86 : decode cX8_tireAll 86 = .ok (.iconst 1, 1) := by decide +kernel
theorem dX8_tireAll_87 : decode cX8_tireAll 87 = .ok (.iadd, 1) := by decide +kernel
theorem dX8_tireAll_88 : decode cX8_tireAll 88 = .ok (.iastore, 1) := by decide +kernel
theorem dX8_tireAll_89 : decode cX8_tireAll 89 = .ok (.aload_n 0, 1) := by decide +kernel
theorem dX8_tireAll_90 : decode cX8_tireAll 90 = .ok (.getfield 7, 3) := by decide +kernel
theorem dX8_tireAll_93 : decode cX8_tireAll 93 = .ok (.bipush 43, 2) := by decide +kernel
theorem dX8_tireAll_95 : decode cX8_tireAll 95 = .ok (.iload_n 1, 1) := by decide +kernel
theorem dX8_tireAll_96 : decode cX8_tireAll 96 = .ok (.iadd, 1) := by decide +kernel
theorem dX8_tireAll_97 : decode cX8_tireAll 97 = .ok (.iload_n 3, 1) := by decide +kernel
theorem dX8_tireAll_98 : decode cX8_tireAll 98 = .ok (.ifCond .ge 7, 3) := by decide +kernel
theorem dX8_tireAll_101 : decode cX8_tireAll 101 = .ok (.iconst 0, 1) := by decide +kernel
theorem dX8_tireAll_102 : decode cX8_tireAll 102 = .ok (.goto 17, 3) := by decide +kernel
theorem dX8_tireAll_105 : decode cX8_tireAll 105 = .ok (.iload_n 3, 1) := by decide +kernel
theorem dX8_tireAll_106 : decode cX8_tireAll 106 = .ok (.sipush 1000, 3) := by decide +kernel
theorem dX8_tireAll_109 : decode cX8_tireAll 109 = .ok (.if_icmp .le 9, 3) := by decide +kernel
theorem dX8_tireAll_112 : decode cX8_tireAll 112 = .ok (.sipush 1000, 3) := by decide +kernel
theorem dX8_tireAll_115 : decode cX8_tireAll 115 = .ok (.goto 4, 3) := by decide +kernel
theorem dX8_tireAll_118 : decode cX8_tireAll 118 = .ok (.iload_n 3, 1) := by decide +kernel
theorem dX8_tireAll_119 : decode cX8_tireAll 119 = .ok (.iastore, 1) := by decide +kernel
theorem dX8_tireAll_120 : decode cX8_tireAll 120 = .ok (.iinc 1 1, 3) := by decide +kernel
theorem dX8_tireAll_123 : decode cX8_tireAll 123 = .ok (.goto (-121), 3) := by decide +kernel
theorem dX8_tireAll_126 : decode cX8_tireAll 126 = .ok (.return_, 1) := by decide +kernel
theorem dX8_isTooTired_0 : decode cX8_isTooTired 0 = .ok (.iconst 0, 1) := by decide +kernel
theorem dX8_isTooTired_1 : decode cX8_isTooTired 1 = .ok (.istore_n 2, 1) := by decide +kernel
theorem dX8_isTooTired_2 : decode cX8_isTooTired 2 = .ok (.iconst 0, 1) := by decide +kernel
theorem dX8_isTooTired_3 : decode cX8_isTooTired 3 = .ok (.istore_n 3, 1) := by decide +kernel
theorem dX8_isTooTired_4 : decode cX8_isTooTired 4 = .ok (.iload_n 3, 1) := by decide +kernel
theorem dX8_isTooTired_5 : decode cX8_isTooTired 5 = .ok (.aload_n 0, 1) := by decide +kernel
theorem dX8_isTooTired_6 : decode cX8_isTooTired 6 = .ok (.iload_n 1, 1) := by decide +kernel
theorem dX8_isTooTired_7 : decode cX8_isTooTired 7 = .ok (.iconst 5, 1) := by decide +kernel
theorem dX8_isTooTired_8 : decode cX8_isTooTired 8 = .ok (.invokevirtual 42, 3) := by decide +kernel
theorem dX8_isTooTired_11 : decode cX8_isTooTired 11 = .ok (.if_icmp .ge 45, 3) := by decide +kernel
theorem dX8_isTooTired_14 : decode cX8_isTooTired 14 = .ok (.iload_n 2, 1) := by decide +kernel
theorem dX8_isTooTired_15 : decode cX8_isTooTired 15 = .ok (.ifCond .ne 29, 3) := by decide +kernel
theorem dX8_isTooTired_18 : decode cX8_isTooTired 18 = .ok (.aload_n 0, 1) := by decide +kernel
theorem dX8_isTooTired_19 : decode cX8_isTooTired 19 = .ok (.getfield 7, 3) := by decide +kernel
theorem dX8_isTooTired_22 : decode cX8_isTooTired 22 = .ok (.bipush 43, 2) := by decide +kernel
theorem dX8_isTooTired_24 : decode cX8_isTooTired 24 = .ok (.aload_n 0, 1) := by decide +kernel
theorem dX8_isTooTired_25 : decode cX8_isTooTired 25 = .ok (.iload_n 1, 1) := by decide +kernel
theorem dX8_isTooTired_26 : decode cX8_isTooTired 26 = .ok (.bipush 6, 2) := by decide +kernel
theorem dX8_isTooTired_28 : decode cX8_isTooTired 28 = .ok (.iload_n 3, 1) := by decide +kernel
theorem dX8_isTooTired_29 : decode cX8_isTooTired 29 = .ok (.iadd, 1) := by decide +kernel
theorem dX8_isTooTired_30 : decode cX8_isTooTired 30 = .ok (.invokevirtual 42, 3) := by decide +kernel
theorem dX8_isTooTired_33 : decode cX8_isTooTired 33 = .ok (.iadd, 1) := by decide +kernel
theorem dX8_isTooTired_34 : decode cX8_isTooTired 34 = .ok (.iaload, 1) := by decide +kernel
theorem dX8_isTooTired_35 : decode cX8_isTooTired 35 = .ok (.aload_n 0, 1) := by decide +kernel
theorem dX8_isTooTired_36 : decode cX8_isTooTired 36 = .ok (.getfield 7, 3) := by decide +kernel
theorem dX8_isTooTired_39 : decode cX8_isTooTired 39 = .ok (.iconst 3, 1) := by decide +kernel
theorem dX8_isTooTired_40 : decode cX8_isTooTired 40 = .ok (.iaload, 1) := by decide +kernel
theorem dX8_isTooTired_41 : decode cX8_isTooTired 41 = .ok (.if_icmp .le 7, 3) := by decide +kernel
theorem dX8_isTooTired_44 : decode cX8_isTooTired 44 = .ok (.iconst 1, 1) := by decide +kernel
theorem dX8_isTooTired_45 : decode cX8_isTooTired 45 = .ok (.goto 4, 3) := by decide +kernel
theorem dX8_isTooTired_48 : decode cX8_isTooTired 48 = .ok (.iconst 0, 1) := by decide +kernel
theorem dX8_isTooTired_49 : decode cX8_isTooTired 49 = .ok (.istore_n 2, 1) := by decide +kernel
theorem dX8_isTooTired_50 : decode cX8_isTooTired 50 = .ok (.iinc 3 1, 3) := by decide +kernel
theorem dX8_isTooTired_53 : decode cX8_isTooTired 53 = .ok (.goto (-49), 3) := by decide +kernel
theorem dX8_isTooTired_56 : decode cX8_isTooTired 56 = .ok (.iload_n 2, 1) := by decide +kernel
theorem dX8_isTooTired_57 : decode cX8_isTooTired 57 = .ok (.ireturn, 1) := by decide +kernel
theorem dX8_adjourn_0 : decode cX8_adjourn 0 = .ok (.aload_n 0, 1) := by decide +kernel
theorem dX8_adjourn_1 : decode cX8_adjourn 1 = .ok (.getfield 7, 3) := by decide +kernel
theorem dX8_adjourn_4 : decode cX8_adjourn 4 = .ok (.bipush 12, 2) := by decide +kernel
theorem dX8_adjourn_6 : decode cX8_adjourn 6 = .ok (.dup2, 1) := by decide +kernel
theorem dX8_adjourn_7 : decode cX8_adjourn 7 = .ok (.iaload, 1) := by decide +kernel
theorem dX8_adjourn_8 : decode cX8_adjourn 8 = .ok (.aload_n 0, 1) := by decide +kernel
theorem dX8_adjourn_9 : decode cX8_adjourn 9 = .ok (.iload_n 1, 1) := by decide +kernel
theorem dX8_adjourn_10 : decode cX8_adjourn 10 = .ok (.iconst 1, 1) := by decide +kernel
theorem dX8_adjourn_11 : decode cX8_adjourn 11 = .ok (.invokevirtual 131, 3) := by decide +kernel
theorem dX8_adjourn_14 : decode cX8_adjourn 14 = .ok (.iadd, 1) := by decide +kernel
theorem dX8_adjourn_15 : decode cX8_adjourn 15 = .ok (.iastore, 1) := by decide +kernel
theorem dX8_adjourn_16 : decode cX8_adjourn 16 = .ok (.aload_n 0, 1) := by decide +kernel
theorem dX8_adjourn_17 : decode cX8_adjourn 17 = .ok (.iload_n 1, 1) := by decide +kernel
theorem dX8_adjourn_18 : decode cX8_adjourn 18 = .ok (.iconst 4, 1) := by decide +kernel
theorem dX8_adjourn_19 : decode cX8_adjourn 19 = .ok (.iconst 2, 1) := by decide +kernel
theorem dX8_adjourn_20 : decode cX8_adjourn 20 = .ok (.invokevirtual 74, 3) := by decide +kernel
theorem dX8_adjourn_23 : decode cX8_adjourn 23 = .ok (.return_, 1) := by decide +kernel
theorem dX8_minute_0 : decode cX8_minute 0 = .ok (.aload_n 0, 1) := by decide +kernel
theorem dX8_minute_1 : decode cX8_minute 1 = .ok (.invokevirtual 137, 3) := by decide +kernel
theorem dX8_minute_4 : decode cX8_minute 4 = .ok (.aload_n 0, 1) := by decide +kernel
theorem dX8_minute_5 : decode cX8_minute 5 = .ok (.getfield 7, 3) := by decide +kernel
theorem dX8_minute_8 : decode cX8_minute 8 = .ok (.bipush 9, 2) := by decide +kernel
theorem dX8_minute_10 : decode cX8_minute 10 = .ok (.dup2, 1) := by decide +kernel
theorem dX8_minute_11 : decode cX8_minute 11 = .ok (.iaload, 1) := by decide +kernel
theorem dX8_minute_12 : decode cX8_minute 12 = .ok (.iconst 1, 1) := by decide +kernel
theorem dX8_minute_13 : decode cX8_minute 13 = .ok (.iadd, 1) := by decide +kernel
theorem dX8_minute_14 : decode cX8_minute 14 = .ok (.iastore, 1) := by decide +kernel
theorem dX8_minute_15 : decode cX8_minute 15 = .ok (.iconst 0, 1) := by decide +kernel
theorem dX8_minute_16 : decode cX8_minute 16 = .ok (.istore_n 1, 1) := by decide +kernel
theorem dX8_minute_17 : decode cX8_minute 17 = .ok (.iconst 0, 1) := by decide +kernel
theorem dX8_minute_18 : decode cX8_minute 18 = .ok (.istore_n 2, 1) := by decide +kernel
theorem dX8_minute_19 : decode cX8_minute 19 = .ok (.iload_n 2, 1) := by decide +kernel
theorem dX8_minute_20 : decode cX8_minute 20 = .ok (.aload_n 0, 1) := by decide +kernel
theorem dX8_minute_21 : decode cX8_minute 21 = .ok (.getfield 7, 3) := by decide +kernel
theorem dX8_minute_24 : decode cX8_minute 24 = .ok (.bipush 8, 2) := by decide +kernel
theorem dX8_minute_26 : decode cX8_minute 26 = .ok (.iaload, 1) := by decide +kernel
theorem dX8_minute_27 : decode cX8_minute 27 = .ok (.if_icmp .ge 66, 3) := by decide +kernel
theorem dX8_minute_30 : decode cX8_minute 30 = .ok (.aload_n 0, 1) := by decide +kernel
theorem dX8_minute_31 : decode cX8_minute 31 = .ok (.iload_n 2, 1) := by decide +kernel
theorem dX8_minute_32 : decode cX8_minute 32 = .ok (.invokevirtual 50, 3) := by decide +kernel
theorem dX8_minute_35 : decode cX8_minute 35 = .ok (.ifCond .eq 52, 3) := by decide +kernel
theorem dX8_minute_38 : decode cX8_minute 38 = .ok (.aload_n 0, 1) := by decide +kernel
theorem dX8_minute_39 : decode cX8_minute 39 = .ok (.iload_n 2, 1) := by decide +kernel
theorem dX8_minute_40 : decode cX8_minute 40 = .ok (.invokevirtual 46, 3) := by decide +kernel
theorem dX8_minute_43 : decode cX8_minute 43 = .ok (.aload_n 0, 1) := by decide +kernel
theorem dX8_minute_44 : decode cX8_minute 44 = .ok (.getfield 7, 3) := by decide +kernel
theorem dX8_minute_47 : decode cX8_minute 47 = .ok (.bipush 9, 2) := by decide +kernel
theorem dX8_minute_49 : decode cX8_minute 49 = .ok (.iaload, 1) := by decide +kernel
theorem dX8_minute_50 : decode cX8_minute 50 = .ok (.if_icmp .ne 37, 3) := by decide +kernel
theorem dX8_minute_53 : decode cX8_minute 53 = .ok (.aload_n 0, 1) := by decide +kernel
theorem dX8_minute_54 : decode cX8_minute 54 = .ok (.iload_n 2, 1) := by decide +kernel
theorem dX8_minute_55 : decode cX8_minute 55 = .ok (.iconst 5, 1) := by decide +kernel
theorem dX8_minute_56 : decode cX8_minute 56 = .ok (.invokevirtual 42, 3) := by decide +kernel
theorem dX8_minute_59 : decode cX8_minute 59 = .ok (.ifCond .le 23, 3) := by decide +kernel
theorem dX8_minute_62 : decode cX8_minute 62 = .ok (.aload_n 0, 1) := by decide +kernel
theorem dX8_minute_63 : decode cX8_minute 63 = .ok (.iload_n 2, 1) := by decide +kernel
theorem dX8_minute_64 : decode cX8_minute 64 = .ok (.iconst 2, 1) := by decide +kernel
theorem dX8_minute_65 : decode cX8_minute 65 = .ok (.invokevirtual 131, 3) := by decide +kernel
theorem dX8_minute_68 : decode cX8_minute 68 = .ok (.istore_n 3, 1) := by decide +kernel
theorem dX8_minute_69 : decode cX8_minute 69 = .ok (.aload_n 0, 1) := by decide +kernel
theorem dX8_minute_70 : decode cX8_minute 70 = .ok (.iload_n 2, 1) := by decide +kernel
theorem dX8_minute_71 : decode cX8_minute 71 = .ok (.iconst 4, 1) := by decide +kernel
theorem dX8_minute_72 : decode cX8_minute 72 = .ok (.iconst 1, 1) := by decide +kernel
theorem dX8_minute_73 : decode cX8_minute 73 = .ok (.invokevirtual 74, 3) := by decide +kernel
theorem dX8_minute_76 : decode cX8_minute 76 = .ok (.iinc 1 1, 3) := by decide +kernel
theorem dX8_minute_79 : decode cX8_minute 79 = .ok (.goto 8, 3) := by decide +kernel
theorem dX8_minute_82 : decode cX8_minute 82 = .ok (.aload_n 0, 1) := by decide +kernel
theorem dX8_minute_83 : decode cX8_minute 83 = .ok (.iload_n 2, 1) := by decide +kernel
theorem dX8_minute_84 : decode cX8_minute 84 = .ok (.invokevirtual 140, 3) := by decide +kernel
theorem dX8_minute_87 : decode cX8_minute 87 = .ok (.iinc 2 1, 3) := by decide +kernel
theorem dX8_minute_90 : decode cX8_minute 90 = .ok (.goto (-71), 3) := by decide +kernel
theorem dX8_minute_93 : decode cX8_minute 93 = .ok (.iconst 0, 1) := by decide +kernel
theorem dX8_minute_94 : decode cX8_minute 94 = .ok (.istore_n 2, 1) := by decide +kernel
theorem dX8_minute_95 : decode cX8_minute 95 = .ok (.iload_n 2, 1) := by decide +kernel
theorem dX8_minute_96 : decode cX8_minute 96 = .ok (.aload_n 0, 1) := by decide +kernel
theorem dX8_minute_97 : decode cX8_minute 97 = .ok (.getfield 7, 3) := by decide +kernel
theorem dX8_minute_100 : decode cX8_minute 100 = .ok (.bipush 8, 2) := by decide +kernel
theorem dX8_minute_102 : decode cX8_minute 102 = .ok (.iaload, 1) := by decide +kernel
theorem dX8_minute_103 : decode cX8_minute 103 = .ok (.if_icmp .ge 46, 3) := by decide +kernel
theorem dX8_minute_106 : decode cX8_minute 106 = .ok (.aload_n 0, 1) := by decide +kernel
theorem dX8_minute_107 : decode cX8_minute 107 = .ok (.iload_n 2, 1) := by decide +kernel
theorem dX8_minute_108 : decode cX8_minute 108 = .ok (.invokevirtual 50, 3) := by decide +kernel
theorem dX8_minute_111 : decode cX8_minute 111 = .ok (.ifCond .eq 32, 3) := by decide +kernel
theorem dX8_minute_114 : decode cX8_minute 114 = .ok (.aload_n 0, 1) := by decide +kernel
theorem dX8_minute_115 : decode cX8_minute 115 = .ok (.iload_n 2, 1) := by decide +kernel
theorem dX8_minute_116 : decode cX8_minute 116 = .ok (.iconst 2, 1) := by decide +kernel
theorem dX8_minute_117 : decode cX8_minute 117 = .ok (.invokevirtual 42, 3) := by decide +kernel
theorem dX8_minute_120 : decode cX8_minute 120 = .ok (.aload_n 0, 1) := by decide +kernel
theorem dX8_minute_121 : decode cX8_minute 121 = .ok (.getfield 7, 3) := by decide +kernel
theorem dX8_minute_124 : decode cX8_minute 124 = .ok (.bipush 9, 2) := by decide +kernel
theorem dX8_minute_126 : decode cX8_minute 126 = .ok (.iaload, 1) := by decide +kernel
theorem dX8_minute_127 : decode cX8_minute 127 = .ok (.if_icmp .ne 16, 3) := by decide +kernel
theorem dX8_minute_130 : decode cX8_minute 130 = .ok (.aload_n 0, 1) := by decide +kernel
theorem dX8_minute_131 : decode cX8_minute 131 = .ok (.iload_n 2, 1) := by decide +kernel
theorem dX8_minute_132 : decode cX8_minute 132 = .ok (.invokevirtual 143, 3) := by decide +kernel
theorem dX8_minute_135 : decode cX8_minute 135 = .ok (.ifCond .eq 8, 3) := by decide +kernel
theorem dX8_minute_138 : decode cX8_minute 138 = .ok (.aload_n 0, 1) := by decide +kernel
theorem dX8_minute_139 : decode cX8_minute 139 = .ok (.iload_n 2, 1) := by decide +kernel
theorem dX8_minute_140 : decode cX8_minute 140 = .ok (.invokevirtual 140, 3) := by decide +kernel
theorem dX8_minute_143 : decode cX8_minute 143 = .ok (.iinc 2 1, 3) := by decide +kernel
theorem dX8_minute_146 : decode cX8_minute 146 = .ok (.goto (-51), 3) := by decide +kernel
theorem dX8_minute_149 : decode cX8_minute 149 = .ok (.iload_n 1, 1) := by decide +kernel
theorem dX8_minute_150 : decode cX8_minute 150 = .ok (.ireturn, 1) := by decide +kernel
theorem dX8_go_0 : decode cX8_go 0 = .ok (.iconst 0, 1) := by decide +kernel
theorem dX8_go_1 : decode cX8_go 1 = .ok (.istore_n 2, 1) := by decide +kernel
theorem dX8_go_2 : decode cX8_go 2 = .ok (.iconst 0, 1) := by decide +kernel
theorem dX8_go_3 : decode cX8_go 3 = .ok (.istore_n 3, 1) := by decide +kernel
theorem dX8_go_4 : decode cX8_go 4 = .ok (.iload_n 3, 1) := by decide +kernel
theorem dX8_go_5 : decode cX8_go 5 = .ok (.iload_n 1, 1) := by decide +kernel
theorem dX8_go_6 : decode cX8_go 6 = .ok (.if_icmp .ge 20, 3) := by decide +kernel
theorem dX8_go_9 : decode cX8_go 9 = .ok (.aload_n 0, 1) := by decide +kernel
theorem dX8_go_10 : decode cX8_go 10 = .ok (.invokevirtual 146, 3) := by decide +kernel
theorem dX8_go_13 : decode cX8_go 13 = .ok (.istore 4, 2) := by decide +kernel
theorem dX8_go_15 : decode cX8_go 15 = .ok (.iload_n 2, 1) := by decide +kernel
theorem dX8_go_16 : decode cX8_go 16 = .ok (.iload 4, 2) := by decide +kernel
theorem dX8_go_18 : decode cX8_go 18 = .ok (.iadd, 1) := by decide +kernel
theorem dX8_go_19 : decode cX8_go 19 = .ok (.istore_n 2, 1) := by decide +kernel
theorem dX8_go_20 : decode cX8_go 20 = .ok (.iinc 3 1, 3) := by decide +kernel
theorem dX8_go_23 : decode cX8_go 23 = .ok (.goto (-19), 3) := by decide +kernel
theorem dX8_go_26 : decode cX8_go 26 = .ok (.iload_n 2, 1) := by decide +kernel
theorem dX8_go_27 : decode cX8_go 27 = .ok (.ireturn, 1) := by decide +kernel
theorem dX8_pass_0 : decode cX8_pass 0 = .ok (.aload_n 0, 1) := by decide +kernel
theorem dX8_pass_1 : decode cX8_pass 1 = .ok (.iload_n 1, 1) := by decide +kernel
theorem dX8_pass_2 : decode cX8_pass 2 = .ok (.iconst 1, 1) := by decide +kernel
theorem dX8_pass_3 : decode cX8_pass 3 = .ok (.sipush 500, 3) := by decide +kernel
theorem dX8_pass_6 : decode cX8_pass 6 = .ok (.invokestatic 38, 3) := by decide +kernel
theorem dX8_pass_9 : decode cX8_pass 9 = .ok (.ifCond .ne 7, 3) := by decide +kernel
theorem dX8_pass_12 : decode cX8_pass 12 = .ok (.iconst 1, 1) := by decide +kernel
theorem dX8_pass_13 : decode cX8_pass 13 = .ok (.goto 23, 3) := by decide +kernel
theorem dX8_pass_16 : decode cX8_pass 16 = .ok (.aload_n 0, 1) := by decide +kernel
theorem dX8_pass_17 : decode cX8_pass 17 = .ok (.getfield 7, 3) := by decide +kernel
theorem dX8_pass_20 : decode cX8_pass 20 = .ok (.bipush 9, 2) := by decide +kernel
theorem dX8_pass_22 : decode cX8_pass 22 = .ok (.iaload, 1) := by decide +kernel
theorem dX8_pass_23 : decode cX8_pass 23 = .ok (.iload_n 1, 1) := by decide +kernel
theorem dX8_pass_24 : decode cX8_pass 24 = .ok (.iadd, 1) := by decide +kernel
theorem dX8_pass_25 : decode cX8_pass 25 = .ok (.sipush 20000, 3) := by decide +kernel
theorem dX8_pass_28 : decode cX8_pass 28 = .ok (.if_icmp .le 7, 3) := by decide +kernel
theorem dX8_pass_31 : decode cX8_pass 31 = .ok (.iconst 2, 1) := by decide +kernel
theorem dX8_pass_32 : decode cX8_pass 32 = .ok (.goto 4, 3) := by decide +kernel
theorem dX8_pass_35 : decode cX8_pass 35 = .ok (.iconst 0, 1) := by decide +kernel
theorem dX8_pass_36 : decode cX8_pass 36 = .ok (.putfield 31, 3) := by decide +kernel
theorem dX8_pass_39 : decode cX8_pass 39 = .ok (.aload_n 0, 1) := by decide +kernel
theorem dX8_pass_40 : decode cX8_pass 40 = .ok (.getfield 31, 3) := by decide +kernel
theorem dX8_pass_43 : decode cX8_pass 43 = .ok (.ifCond .le 5, 3) := by decide +kernel
theorem dX8_pass_46 : decode cX8_pass 46 = .ok (.iconst 0, 1) := by decide +kernel
theorem dX8_pass_47 : decode cX8_pass 47 = .ok (.ireturn, 1) := by decide +kernel
theorem dX8_pass_48 : decode cX8_pass 48 = .ok (.aload_n 0, 1) := by decide +kernel
theorem dX8_pass_49 : decode cX8_pass 49 = .ok (.invokevirtual 71, 3) := by decide +kernel
theorem dX8_pass_52 : decode cX8_pass 52 = .ok (.aload_n 0, 1) := by decide +kernel
theorem dX8_pass_53 : decode cX8_pass 53 = .ok (.iload_n 1, 1) := by decide +kernel
theorem dX8_pass_54 : decode cX8_pass 54 = .ok (.invokevirtual 150, 3) := by decide +kernel
theorem dX8_pass_57 : decode cX8_pass 57 = .ok (.ireturn, 1) := by decide +kernel
theorem dX8_append_0 : decode cX8_append 0 = .ok (.aload_n 0, 1) := by decide +kernel
theorem dX8_append_1 : decode cX8_append 1 = .ok (.iload_n 1, 1) := by decide +kernel
theorem dX8_append_2 : decode cX8_append 2 = .ok (.bipush 33, 2) := by decide +kernel
theorem dX8_append_4 : decode cX8_append 4 = .ok (.bipush 126, 2) := by decide +kernel
theorem dX8_append_6 : decode cX8_append 6 = .ok (.invokestatic 38, 3) := by decide +kernel
theorem dX8_append_9 : decode cX8_append 9 = .ok (.ifCond .ne 7, 3) := by decide +kernel
theorem dX8_append_12 : decode cX8_append 12 = .ok (.iconst 1, 1) := by decide +kernel
theorem dX8_append_13 : decode cX8_append 13 = .ok (.goto 17, 3) := by decide +kernel
theorem dX8_append_16 : decode cX8_append 16 = .ok (.aload_n 0, 1) := by decide +kernel
theorem dX8_append_17 : decode cX8_append 17 = .ok (.getfield 153, 3) := by decide +kernel
theorem dX8_append_20 : decode cX8_append 20 = .ok (.bipush 60, 2) := by decide +kernel
theorem dX8_append_22 : decode cX8_append 22 = .ok (.if_icmp .ne 7, 3) := by decide +kernel
theorem dX8_append_25 : decode cX8_append 25 = .ok (.iconst 2, 1) := by decide +kernel
theorem dX8_append_26 : decode cX8_append 26 = .ok (.goto 4, 3) := by decide +kernel
theorem dX8_append_29 : decode cX8_append 29 = .ok (.iconst 0, 1) := by decide +kernel
theorem dX8_append_30 : decode cX8_append 30 = .ok (.putfield 31, 3) := by decide +kernel
theorem dX8_append_33 : decode cX8_append 33 = .ok (.aload_n 0, 1) := by decide +kernel
theorem dX8_append_34 : decode cX8_append 34 = .ok (.getfield 31, 3) := by decide +kernel
theorem dX8_append_37 : decode cX8_append 37 = .ok (.ifCond .le 5, 3) := by decide +kernel
theorem dX8_append_40 : decode cX8_append 40 = .ok (.iconst 0, 1) := by decide +kernel
theorem dX8_append_41 : decode cX8_append 41 = .ok (.ireturn, 1) := by decide +kernel
theorem dX8_append_42 : decode cX8_append 42 = .ok (.aload_n 0, 1) := by decide +kernel
theorem dX8_append_43 : decode cX8_append 43 = .ok (.getfield 16, 3) := by decide +kernel
theorem dX8_append_46 : decode cX8_append 46 = .ok (.aload_n 0, 1) := by decide +kernel
theorem dX8_append_47 : decode cX8_append 47 = .ok (.getfield 153, 3) := by decide +kernel
theorem dX8_append_50 : decode cX8_append 50 = .ok (.iload_n 1, 1) := by decide +kernel
theorem dX8_append_51 : decode cX8_append 51 = .ok (.iastore, 1) := by decide +kernel
theorem dX8_append_52 : decode cX8_append 52 = .ok (.aload_n 0, 1) := by decide +kernel
theorem dX8_append_53 : decode cX8_append 53 = .ok (.dup, 1) := by decide +kernel
theorem dX8_append_54 : decode cX8_append 54 = .ok (.getfield 153, 3) := by decide +kernel
theorem dX8_append_57 : decode cX8_append 57 = .ok (.iconst 1, 1) := by decide +kernel
theorem dX8_append_58 : decode cX8_append 58 = .ok (.iadd, 1) := by decide +kernel
theorem dX8_append_59 : decode cX8_append 59 = .ok (.putfield 153, 3) := by decide +kernel
theorem dX8_append_62 : decode cX8_append 62 = .ok (.aload_n 0, 1) := by decide +kernel
theorem dX8_append_63 : decode cX8_append 63 = .ok (.getfield 153, 3) := by decide +kernel
theorem dX8_append_66 : decode cX8_append 66 = .ok (.ireturn, 1) := by decide +kernel
theorem dX8_clearBuffer_0 : decode cX8_clearBuffer 0 = .ok (.aload_n 0, 1) := by decide +kernel
theorem dX8_clearBuffer_1 : decode cX8_clearBuffer 1 = .ok (.iconst 0, 1) := by decide +kernel
theorem dX8_clearBuffer_2 : decode cX8_clearBuffer 2 = .ok (.putfield 31, 3) := by decide +kernel
theorem dX8_clearBuffer_5 : decode cX8_clearBuffer 5 = .ok (.aload_n 0, 1) := by decide +kernel
theorem dX8_clearBuffer_6 : decode cX8_clearBuffer 6 = .ok (.getfield 153, 3) := by decide +kernel
theorem dX8_clearBuffer_9 : decode cX8_clearBuffer 9 = .ok (.istore_n 1, 1) := by decide +kernel
theorem dX8_clearBuffer_10 : decode cX8_clearBuffer 10 = .ok (.aload_n 0, 1) := by decide +kernel
theorem dX8_clearBuffer_11 : decode cX8_clearBuffer 11 = .ok (.iconst 0, 1) := by decide +kernel
theorem dX8_clearBuffer_12 : decode cX8_clearBuffer 12 = .ok (.putfield 153, 3) := by decide +kernel
theorem dX8_clearBuffer_15 : decode cX8_clearBuffer 15 = .ok (.iload_n 1, 1) := by decide +kernel
theorem dX8_clearBuffer_16 : decode cX8_clearBuffer 16 = .ok (.ireturn, 1) := by decide +kernel
theorem dX8_takesDigit_0 : decode cX8_takesDigit 0 = .ok (.aload_n 0, 1) := by decide +kernel
theorem dX8_takesDigit_1 : decode cX8_takesDigit 1 = .ok (.getfield 156, 3) := by decide +kernel
theorem dX8_takesDigit_4 : decode cX8_takesDigit 4 = .ok (.iconst (-1), 1) := by decide +kernel
theorem dX8_takesDigit_5 : decode cX8_takesDigit 5 = .ok (.if_icmp .ne 7, 3) := by decide +kernel
theorem dX8_takesDigit_8 : decode cX8_takesDigit 8 = .ok (.iload_n 1, 1) := by decide +kernel
theorem dX8_takesDigit_9 : decode cX8_takesDigit 9 = .ok (.goto 12, 3) := by decide +kernel
theorem dX8_takesDigit_12 : decode cX8_takesDigit 12 = .ok (.bipush 10, 2) := by decide +kernel
theorem dX8_takesDigit_14 : decode cX8_takesDigit 14 = .ok (.aload_n 0, 1) := by decide +kernel
theorem dX8_takesDigit_15 : decode cX8_takesDigit 15 = .ok (.getfield 156, 3) := by decide +kernel
theorem dX8_takesDigit_18 : decode cX8_takesDigit 18 = .ok (.imul, 1) := by decide +kernel
theorem dX8_takesDigit_19 : decode cX8_takesDigit 19 = .ok (.iload_n 1, 1) := by decide +kernel
theorem dX8_takesDigit_20 : decode cX8_takesDigit 20 = .ok (.iadd, 1) := by decide +kernel
theorem dX8_takesDigit_21 : decode cX8_takesDigit 21 = .ok (.istore_n 2, 1) := by decide +kernel
theorem dX8_takesDigit_22 : decode cX8_takesDigit 22 = .ok (.iload_n 1, 1) := by decide +kernel
theorem dX8_takesDigit_23 : decode cX8_takesDigit 23 = .ok (.iconst 0, 1) := by decide +kernel
theorem dX8_takesDigit_24 : decode cX8_takesDigit 24 = .ok (.bipush 9, 2) := by decide +kernel
theorem dX8_takesDigit_26 : decode cX8_takesDigit 26 = .ok (.invokestatic 38, 3) := by decide +kernel
theorem dX8_takesDigit_29 : decode cX8_takesDigit 29 = .ok (.ifCond .eq 32, 3) := by decide +kernel
theorem dX8_takesDigit_32 : decode cX8_takesDigit 32 = .ok (.iload_n 2, 1) := by decide +kernel
theorem dX8_takesDigit_33 : decode cX8_takesDigit 33 = .ok (.ifCond .le 28, 3) := by decide +kernel
theorem dX8_takesDigit_36 : decode cX8_takesDigit 36 = .ok (.iload_n 2, 1) := by decide +kernel
theorem dX8_takesDigit_37 : decode cX8_takesDigit 37 = .ok (.aload_n 0, 1) := by decide +kernel
theorem dX8_takesDigit_38 : decode cX8_takesDigit 38 = .ok (.getfield 159, 3) := by decide +kernel
theorem dX8_takesDigit_41 : decode cX8_takesDigit 41 = .ok (.iconst 3, 1) := by decide +kernel
theorem dX8_takesDigit_42 : decode cX8_takesDigit 42 = .ok (.if_icmp .ne 9, 3) := by decide +kernel
theorem dX8_takesDigit_45 : decode cX8_takesDigit 45 = .ok (.sipush 2000, 3) := by decide +kernel
theorem dX8_takesDigit_48 : decode cX8_takesDigit 48 = .ok (.goto 6, 3) := by decide +kernel
theorem dX8_takesDigit_51 : decode cX8_takesDigit 51 = .ok (.sipush 240, 3) := by decide +kernel
theorem dX8_takesDigit_54 : decode cX8_takesDigit 54 = .ok (.if_icmp .gt 7, 3) := by decide +kernel
theorem dX8_takesDigit_57 : decode cX8_takesDigit 57 = .ok (.iconst 1, 1) := by decide +kernel
theorem dX8_takesDigit_58 : decode cX8_takesDigit 58 = .ok (.goto 4, 3) := by decide +kernel
theorem dX8_takesDigit_61 : decode cX8_takesDigit 61 = .ok (.iconst 0, 1) := by decide +kernel
theorem dX8_takesDigit_62 : decode cX8_takesDigit 62 = .ok (.istore_n 3, 1) := by decide +kernel
theorem dX8_takesDigit_63 : decode cX8_takesDigit 63 = .ok (.aload_n 0, 1) := by decide +kernel
theorem dX8_takesDigit_64 : decode cX8_takesDigit 64 = .ok (.iload_n 3, 1) := by decide +kernel
theorem dX8_takesDigit_65 : decode cX8_takesDigit 65 = .ok (.ifCond .eq 7, 3) := by decide +kernel
theorem dX8_takesDigit_68 : decode cX8_takesDigit 68 = .ok (.iload_n 2, 1) := by decide +kernel
theorem dX8_takesDigit_69 : decode cX8_takesDigit 69 = .ok (.goto 7, 3) := by decide +kernel
theorem dX8_takesDigit_72 : decode cX8_takesDigit 72 = .ok (.aload_n 0, 1) := by decide +kernel
theorem dX8_takesDigit_73 : decode cX8_takesDigit 73 = .ok (.getfield 156, 3) := by decide +kernel
theorem dX8_takesDigit_76 : decode cX8_takesDigit 76 = .ok (.putfield 156, 3) := by decide +kernel
theorem dX8_takesDigit_79 : decode cX8_takesDigit 79 = .ok (.iload_n 3, 1) := by decide +kernel
theorem dX8_takesDigit_80 : decode cX8_takesDigit 80 = .ok (.ireturn, 1) := by decide +kernel
theorem dX8_takesKind_0 : decode cX8_takesKind 0 = .ok (.aload_n 0, 1) := by decide +kernel
theorem dX8_takesKind_1 : decode cX8_takesKind 1 = .ok (.getfield 22, 3) := by decide +kernel
theorem dX8_takesKind_4 : decode cX8_takesKind 4 = .ok (.iconst 4, 1) := by decide +kernel
theorem dX8_takesKind_5 : decode cX8_takesKind 5 = .ok (.aload_n 0, 1) := by decide +kernel
theorem dX8_takesKind_6 : decode cX8_takesKind 6 = .ok (.getfield 162, 3) := by decide +kernel
theorem dX8_takesKind_9 : decode cX8_takesKind 9 = .ok (.imul, 1) := by decide +kernel
theorem dX8_takesKind_10 : decode cX8_takesKind 10 = .ok (.iload_n 1, 1) := by decide +kernel
theorem dX8_takesKind_11 : decode cX8_takesKind 11 = .ok (.bipush 99, 2) := by decide +kernel
theorem dX8_takesKind_13 : decode cX8_takesKind 13 = .ok (.if_icmp .ne 7, 3) := by decide +kernel
theorem dX8_takesKind_16 : decode cX8_takesKind 16 = .ok (.iconst 0, 1) := by decide +kernel
theorem dX8_takesKind_17 : decode cX8_takesKind 17 = .ok (.goto 14, 3) := by decide +kernel
theorem dX8_takesKind_20 : decode cX8_takesKind 20 = .ok (.iload_n 1, 1) := by decide +kernel
theorem dX8_takesKind_21 : decode cX8_takesKind 21 = .ok (.bipush 114, 2) := by decide +kernel
theorem dX8_takesKind_23 : decode cX8_takesKind 23 = .ok (.if_icmp .ne 7, 3) := by decide +kernel
theorem dX8_takesKind_26 : decode cX8_takesKind 26 = .ok (.iconst 1, 1) := by decide +kernel
theorem dX8_takesKind_27 : decode cX8_takesKind 27 = .ok (.goto 4, 3) := by decide +kernel
theorem dX8_takesKind_30 : decode cX8_takesKind 30 = .ok (.iconst 2, 1) := by decide +kernel
theorem dX8_takesKind_31 : decode cX8_takesKind 31 = .ok (.iastore, 1) := by decide +kernel
theorem dX8_takesKind_32 : decode cX8_takesKind 32 = .ok (.aload_n 0, 1) := by decide +kernel
theorem dX8_takesKind_33 : decode cX8_takesKind 33 = .ok (.iconst 1, 1) := by decide +kernel
theorem dX8_takesKind_34 : decode cX8_takesKind 34 = .ok (.putfield 159, 3) := by decide +kernel
theorem dX8_takesKind_37 : decode cX8_takesKind 37 = .ok (.iload_n 1, 1) := by decide +kernel
theorem dX8_takesKind_38 : decode cX8_takesKind 38 = .ok (.bipush 99, 2) := by decide +kernel
theorem dX8_takesKind_40 : decode cX8_takesKind 40 = .ok (.if_icmp .eq 15, 3) := by decide +kernel
theorem dX8_takesKind_43 : decode cX8_takesKind 43 = .ok (.iload_n 1, 1) := by decide +kernel
theorem dX8_takesKind_44 : decode cX8_takesKind 44 = .ok (.bipush 114, 2) := by decide +kernel
theorem dX8_takesKind_46 : decode cX8_takesKind 46 = .ok (.if_icmp .eq 9, 3) := by decide +kernel
theorem dX8_takesKind_49 : decode cX8_takesKind 49 = .ok (.iload_n 1, 1) := by decide +kernel
theorem dX8_takesKind_50 : decode cX8_takesKind 50 = .ok (.bipush 97, 2) := by decide +kernel
theorem dX8_takesKind_52 : decode cX8_takesKind 52 = .ok (.if_icmp .ne 7, 3) := by decide +kernel
theorem dX8_takesKind_55 : decode cX8_takesKind 55 = .ok (.iconst 1, 1) := by decide +kernel
theorem dX8_takesKind_56 : decode cX8_takesKind 56 = .ok (.goto 4, 3) := by decide +kernel
theorem dX8_takesKind_59 : decode cX8_takesKind 59 = .ok (.iconst 0, 1) := by decide +kernel
theorem dX8_takesKind_60 : decode cX8_takesKind 60 = .ok (.ireturn, 1) := by decide +kernel
theorem dX8_takes_0 : decode cX8_takes 0 = .ok (.aload_n 0, 1) := by decide +kernel
theorem dX8_takes_1 : decode cX8_takes 1 = .ok (.getfield 159, 3) := by decide +kernel
theorem dX8_takes_4 : decode cX8_takes 4 = .ok (.tableswitch 82 0 2 #[28, 34, 65], 28) := by decide +kernel
theorem dX8_takes_32 : decode cX8_takes 32 = .ok (.aload_n 0, 1) := by decide +kernel
theorem dX8_takes_33 : decode cX8_takes 33 = .ok (.iload_n 1, 1) := by decide +kernel
theorem dX8_takes_34 : decode cX8_takes 34 = .ok (.invokevirtual 165, 3) := by decide +kernel
theorem dX8_takes_37 : decode cX8_takes 37 = .ok (.ireturn, 1) := by decide +kernel
theorem dX8_takes_38 : decode cX8_takes 38 = .ok (.aload_n 0, 1) := by decide +kernel
theorem dX8_takes_39 : decode cX8_takes 39 = .ok (.getfield 22, 3) := by decide +kernel
theorem dX8_takes_42 : decode cX8_takes 42 = .ok (.iconst 4, 1) := by decide +kernel
theorem dX8_takes_43 : decode cX8_takes 43 = .ok (.aload_n 0, 1) := by decide +kernel
theorem dX8_takes_44 : decode cX8_takes 44 = .ok (.getfield 162, 3) := by decide +kernel
theorem dX8_takes_47 : decode cX8_takes 47 = .ok (.imul, 1) := by decide +kernel
theorem dX8_takes_48 : decode cX8_takes 48 = .ok (.iconst 1, 1) := by decide +kernel
theorem dX8_takes_49 : decode cX8_takes 49 = .ok (.iadd, 1) := by decide +kernel
theorem dX8_takes_50 : decode cX8_takes 50 = .ok (.iload_n 1, 1) := by decide +kernel
theorem dX8_takes_51 : decode cX8_takes 51 = .ok (.bipush 48, 2) := by decide +kernel
theorem dX8_takes_53 : decode cX8_takes 53 = .ok (.isub, 1) := by decide +kernel
theorem dX8_takes_54 : decode cX8_takes 54 = .ok (.iastore, 1) := by decide +kernel
theorem dX8_takes_55 : decode cX8_takes 55 = .ok (.aload_n 0, 1) := by decide +kernel
theorem dX8_takes_56 : decode cX8_takes 56 = .ok (.iconst 2, 1) := by decide +kernel
theorem dX8_takes_57 : decode cX8_takes 57 = .ok (.putfield 159, 3) := by decide +kernel
theorem dX8_takes_60 : decode cX8_takes 60 = .ok (.iload_n 1, 1) := by decide +kernel
theorem dX8_takes_61 : decode cX8_takes 61 = .ok (.bipush 49, 2) := by decide +kernel
theorem dX8_takes_63 : decode cX8_takes 63 = .ok (.bipush 57, 2) := by decide +kernel
theorem dX8_takes_65 : decode cX8_takes 65 = .ok (.invokestatic 38, 3) := by decide +kernel
theorem dX8_takes_68 : decode cX8_takes 68 = .ok (.ireturn, 1) := by decide +kernel
theorem dX8_takes_69 : decode cX8_takes 69 = .ok (.aload_n 0, 1) := by decide +kernel
theorem dX8_takes_70 : decode cX8_takes 70 = .ok (.iconst 3, 1) := by decide +kernel
theorem dX8_takes_71 : decode cX8_takes 71 = .ok (.putfield 159, 3) := by decide +kernel
theorem dX8_takes_74 : decode cX8_takes 74 = .ok (.iload_n 1, 1) := by decide +kernel
theorem dX8_takes_75 : decode cX8_takes 75 = .ok (.bipush 64, 2) := by decide +kernel
theorem dX8_takes_77 : decode cX8_takes 77 = .ok (.if_icmp .ne 7, 3) := by decide +kernel
theorem dX8_takes_80 : decode cX8_takes 80 = .ok (.iconst 1, 1) := by decide +kernel
theorem dX8_takes_81 : decode cX8_takes 81 = .ok (.goto 4, 3) := by decide +kernel
theorem dX8_takes_84 : decode cX8_takes 84 = .ok (.iconst 0, 1) := by decide +kernel
theorem dX8_takes_85 : decode cX8_takes 85 = .ok (.ireturn, 1) := by decide +kernel
theorem dX8_takes_86 : decode cX8_takes 86 = .ok (.iload_n 1, 1) := by decide +kernel
theorem dX8_takes_87 : decode cX8_takes 87 = .ok (.bipush 43, 2) := by decide +kernel
theorem dX8_takes_89 : decode cX8_takes 89 = .ok (.if_icmp .ne 48, 3) := by decide +kernel
theorem dX8_takes_92 : decode cX8_takes 92 = .ok (.aload_n 0, 1) := by decide +kernel
theorem dX8_takes_93 : decode cX8_takes 93 = .ok (.getfield 159, 3) := by decide +kernel
theorem dX8_takes_96 : decode cX8_takes 96 = .ok (.iconst 3, 1) := by decide +kernel
theorem dX8_takes_97 : decode cX8_takes 97 = .ok (.if_icmp .ne 40, 3) := by decide +kernel
theorem dX8_takes_100 : decode cX8_takes 100 = .ok (.aload_n 0, 1) := by decide +kernel
theorem dX8_takes_101 : decode cX8_takes 101 = .ok (.getfield 156, 3) := by decide +kernel
theorem dX8_takes_104 : decode cX8_takes 104 = .ok (.iconst (-1), 1) := by decide +kernel
theorem dX8_takes_105 : decode cX8_takes 105 = .ok (.if_icmp .eq 32, 3) := by decide +kernel
theorem dX8_takes_108 : decode cX8_takes 108 = .ok (.aload_n 0, 1) := by decide +kernel
theorem dX8_takes_109 : decode cX8_takes 109 = .ok (.getfield 22, 3) := by decide +kernel
theorem dX8_takes_112 : decode cX8_takes 112 = .ok (.iconst 4, 1) := by decide +kernel
theorem dX8_takes_113 : decode cX8_takes 113 = .ok (.aload_n 0, 1) := by decide +kernel
theorem dX8_takes_114 : decode cX8_takes 114 = .ok (.getfield 162, 3) := by decide +kernel
theorem dX8_takes_117 : decode cX8_takes 117 = .ok (.imul, 1) := by decide +kernel
theorem dX8_takes_118 : decode cX8_takes 118 = .ok (.iconst 2, 1) := by decide +kernel
theorem dX8_takes_119 : decode cX8_takes 119 = .ok (.iadd, 1) := by decide +kernel
theorem dX8_takes_120 : decode cX8_takes 120 = .ok (.aload_n 0, 1) := by decide +kernel
theorem dX8_takes_121 : decode cX8_takes 121 = .ok (.getfield 156, 3) := by decide +kernel
theorem dX8_takes_124 : decode cX8_takes 124 = .ok (.iastore, 1) := by decide +kernel
theorem dX8_takes_125 : decode cX8_takes 125 = .ok (.aload_n 0, 1) := by decide +kernel
theorem dX8_takes_126 : decode cX8_takes 126 = .ok (.iconst (-1), 1) := by decide +kernel
theorem dX8_takes_127 : decode cX8_takes 127 = .ok (.putfield 156, 3) := by decide +kernel
theorem dX8_takes_130 : decode cX8_takes 130 = .ok (.aload_n 0, 1) := by decide +kernel
theorem dX8_takes_131 : decode cX8_takes 131 = .ok (.iconst 4, 1) := by decide +kernel
theorem dX8_takes_132 : decode cX8_takes 132 = .ok (.putfield 159, 3) := by decide +kernel
theorem dX8_takes_135 : decode cX8_takes 135 = .ok (.iconst 1, 1) := by decide +kernel
theorem dX8_takes_136 : decode cX8_takes 136 = .ok (.ireturn, 1) := by decide +kernel
theorem dX8_takes_137 : decode cX8_takes 137 = .ok (.iload_n 1, 1) := by decide +kernel
theorem dX8_takes_138 : decode cX8_takes 138 = .ok (.bipush 44, 2) := by decide +kernel
theorem dX8_takes_140 : decode cX8_takes 140 = .ok (.if_icmp .ne 31, 3) := by decide +kernel
theorem dX8_takes_143 : decode cX8_takes 143 = .ok (.aload_n 0, 1) := by decide +kernel
theorem dX8_takes_144 : decode cX8_takes 144 = .ok (.getfield 159, 3) := by decide +kernel
theorem dX8_takes_147 : decode cX8_takes 147 = .ok (.iconst 4, 1) := by decide +kernel
theorem dX8_takes_148 : decode cX8_takes 148 = .ok (.if_icmp .ne 23, 3) := by decide +kernel
theorem dX8_takes_151 : decode cX8_takes 151 = .ok (.aload_n 0, 1) := by decide +kernel
theorem dX8_takes_152 : decode cX8_takes 152 = .ok (.getfield 156, 3) := by decide +kernel
theorem dX8_takes_155 : decode cX8_takes 155 = .ok (.bipush 9, 2) := by decide +kernel
theorem dX8_takes_157 : decode cX8_takes 157 = .ok (.if_icmp .le 14, 3) := by decide +kernel
theorem dX8_takes_160 : decode cX8_takes 160 = .ok (.aload_n 0, 1) := by decide +kernel
theorem dX8_takes_161 : decode cX8_takes 161 = .ok (.invokevirtual 168, 3) := by decide +kernel
theorem dX8_takes_164 : decode cX8_takes 164 = .ok (.aload_n 0, 1) := by decide +kernel
theorem dX8_takes_165 : decode cX8_takes 165 = .ok (.iconst 0, 1) := by decide +kernel
theorem dX8_takes_166 : decode cX8_takes 166 = .ok (.putfield 159, 3) := by decide +kernel
theorem dX8_takes_169 : decode cX8_takes 169 = .ok (.iconst 1, 1) := by decide +kernel
theorem dX8_takes_170 : decode cX8_takes 170 = .ok (.ireturn, 1) := by decide +kernel
theorem dX8_takes_171 : decode cX8_takes 171 = .ok (.aload_n 0, 1) := by decide +kernel
theorem dX8_takes_172 : decode cX8_takes 172 = .ok (.iload_n 1, 1) := by decide +kernel
theorem dX8_takes_173 : decode cX8_takes 173 = .ok (.bipush 48, 2) := by decide +kernel
theorem dX8_takes_175 : decode cX8_takes 175 = .ok (.isub, 1) := by decide +kernel
theorem dX8_takes_176 : decode cX8_takes 176 = .ok (.invokevirtual 171, 3) := by decide +kernel
theorem dX8_takes_179 : decode cX8_takes 179 = .ok (.ireturn, 1) := by decide +kernel
theorem dX8_endHearing_0 : decode cX8_endHearing 0 = .ok (.aload_n 0, 1) := by decide +kernel
theorem dX8_endHearing_1 : decode cX8_endHearing 1 = .ok (.getfield 22, 3) := by decide +kernel
theorem dX8_endHearing_4 : decode cX8_endHearing 4 = .ok (.iconst 4, 1) := by decide +kernel
theorem dX8_endHearing_5 : decode cX8_endHearing 5 = .ok (.aload_n 0, 1) := by decide +kernel
theorem dX8_endHearing_6 : decode cX8_endHearing 6 = .ok (.getfield 162, 3) := by decide +kernel
theorem dX8_endHearing_9 : decode cX8_endHearing 9 = .ok (.imul, 1) := by decide +kernel
theorem dX8_endHearing_10 : decode cX8_endHearing 10 = .ok (.iconst 3, 1) := by decide +kernel
theorem dX8_endHearing_11 : decode cX8_endHearing 11 = .ok (.iadd, 1) := by decide +kernel
theorem dX8_endHearing_12 : decode cX8_endHearing 12 = .ok (.aload_n 0, 1) := by decide +kernel
theorem dX8_endHearing_13 : decode cX8_endHearing 13 = .ok (.getfield 156, 3) := by decide +kernel
theorem dX8_endHearing_16 : decode cX8_endHearing 16 = .ok (.iastore, 1) := by decide +kernel
theorem dX8_endHearing_17 : decode cX8_endHearing 17 = .ok (.aload_n 0, 1) := by decide +kernel
theorem dX8_endHearing_18 : decode cX8_endHearing 18 = .ok (.iconst (-1), 1) := by decide +kernel
theorem dX8_endHearing_19 : decode cX8_endHearing 19 = .ok (.putfield 156, 3) := by decide +kernel
theorem dX8_endHearing_22 : decode cX8_endHearing 22 = .ok (.aload_n 0, 1) := by decide +kernel
theorem dX8_endHearing_23 : decode cX8_endHearing 23 = .ok (.dup, 1) := by decide +kernel
theorem dX8_endHearing_24 : decode cX8_endHearing 24 = .ok (.getfield 162, 3) := by decide +kernel
theorem dX8_endHearing_27 : decode cX8_endHearing 27 = .ok (.iconst 1, 1) := by decide +kernel
theorem dX8_endHearing_28 : decode cX8_endHearing 28 = .ok (.iadd, 1) := by decide +kernel
theorem dX8_endHearing_29 : decode cX8_endHearing 29 = .ok (.putfield 162, 3) := by decide +kernel
theorem dX8_endHearing_32 : decode cX8_endHearing 32 = .ok (.return_, 1) := by decide +kernel
theorem dX8_rightUpTo_0 : decode cX8_rightUpTo 0 = .ok (.aload_n 0, 1) := by decide +kernel
theorem dX8_rightUpTo_1 : decode cX8_rightUpTo 1 = .ok (.iconst 0, 1) := by decide +kernel
