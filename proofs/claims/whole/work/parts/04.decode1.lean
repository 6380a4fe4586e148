theorem dX0_init_0 : decode cX0_init 0 = .ok (.aload_n 0, 1) := by decide +kernel
theorem dX0_init_1 : decode cX0_init 1 = .ok (.invokespecial 3, 3) := by decide +kernel
theorem dX0_init_4 : decode cX0_init 4 = .ok (.aload_n 0, 1) := by decide +kernel
theorem dX0_init_5 : decode cX0_init 5 = .ok (.bipush 60, 2) := by decide +kernel
theorem dX0_init_7 : decode cX0_init 7 = .ok (.newarray .int, 2) := by decide +kernel
theorem dX0_init_9 : decode cX0_init 9 = .ok (.putfield 9, 3) := by decide +kernel
theorem dX0_init_12 : decode cX0_init 12 = .ok (.return_, 1) := by decide +kernel
theorem dX0_put_0 : decode cX0_put 0 = .ok (.aload_n 0, 1) := by decide +kernel
theorem dX0_put_1 : decode cX0_put 1 = .ok (.getfield 15, 3) := by decide +kernel
theorem dX0_put_4 : decode cX0_put 4 = .ok (.bipush 60, 2) := by decide +kernel
theorem dX0_put_6 : decode cX0_put 6 = .ok (.if_icmp .ge 23, 3) := by decide +kernel
theorem dX0_put_9 : decode cX0_put 9 = .ok (.aload_n 0, 1) := by decide +kernel
theorem dX0_put_10 : decode cX0_put 10 = .ok (.getfield 9, 3) := by decide +kernel
theorem dX0_put_13 : decode cX0_put 13 = .ok (.aload_n 0, 1) := by decide +kernel
theorem dX0_put_14 : decode cX0_put 14 = .ok (.getfield 15, 3) := by decide +kernel
theorem dX0_put_17 : decode cX0_put 17 = .ok (.iload_n 1, 1) := by decide +kernel
theorem dX0_put_18 : decode cX0_put 18 = .ok (.iastore, 1) := by decide +kernel
theorem dX0_put_19 : decode cX0_put 19 = .ok (.aload_n 0, 1) := by decide +kernel
theorem dX0_put_20 : decode cX0_put 20 = .ok (.dup, 1) := by decide +kernel
theorem dX0_put_21 : decode cX0_put 21 = .ok (.getfield 15, 3) := by decide +kernel
theorem dX0_put_24 : decode cX0_put 24 = .ok (.iconst 1, 1) := by decide +kernel
theorem dX0_put_25 : decode cX0_put 25 = .ok (.iadd, 1) := by decide +kernel
theorem dX0_put_26 : decode cX0_put 26 = .ok (.putfield 15, 3) := by decide +kernel
theorem dX0_put_29 : decode cX0_put 29 = .ok (.return_, 1) := by decide +kernel
theorem dX0_codeAt_0 : decode cX0_codeAt 0 = .ok (.iload_n 1, 1) := by decide +kernel
theorem dX0_codeAt_1 : decode cX0_codeAt 1 = .ok (.ifCond .lt 18, 3) := by decide +kernel
theorem dX0_codeAt_4 : decode cX0_codeAt 4 = .ok (.iload_n 1, 1) := by decide +kernel
theorem dX0_codeAt_5 : decode cX0_codeAt 5 = .ok (.bipush 60, 2) := by decide +kernel
theorem dX0_codeAt_7 : decode cX0_codeAt 7 = .ok (.if_icmp .ge 12, 3) := by decide +kernel
theorem dX0_codeAt_10 : decode cX0_codeAt 10 = .ok (.aload_n 0, 1) := by decide +kernel
theorem dX0_codeAt_11 : decode cX0_codeAt 11 = .ok (.getfield 9, 3) := by decide +kernel
theorem dX0_codeAt_14 : decode cX0_codeAt 14 = .ok (.iload_n 1, 1) := by decide +kernel
theorem dX0_codeAt_15 : decode cX0_codeAt 15 = .ok (.iaload, 1) := by decide +kernel
theorem dX0_codeAt_16 : decode cX0_codeAt 16 = .ok (.goto 4, 3) := by decide +kernel
theorem dX0_codeAt_19 : decode cX0_codeAt 19 = .ok (.iconst 0, 1) := by decide +kernel
theorem dX0_codeAt_20 : decode cX0_codeAt 20 = .ok (.ireturn, 1) := by decide +kernel
theorem dX0_mixInto_0 : decode cX0_mixInto 0 = .ok (.lload_n 1, 1) := by decide +kernel
theorem dX0_mixInto_1 : decode cX0_mixInto 1 = .ok (.aload_n 0, 1) := by decide +kernel
theorem dX0_mixInto_2 : decode cX0_mixInto 2 = .ok (.getfield 15, 3) := by decide +kernel
theorem dX0_mixInto_5 : decode cX0_mixInto 5 = .ok (.i2l, 1) := by decide +kernel
theorem dX0_mixInto_6 : decode cX0_mixInto 6 = .ok (.invokestatic 19, 3) := by decide +kernel
theorem dX0_mixInto_9 : decode cX0_mixInto 9 = .ok (.lstore_n 3, 1) := by decide +kernel
theorem dX0_mixInto_10 : decode cX0_mixInto 10 = .ok (.iconst 0, 1) := by decide +kernel
theorem dX0_mixInto_11 : decode cX0_mixInto 11 = .ok (.istore 5, 2) := by decide +kernel
theorem dX0_mixInto_13 : decode cX0_mixInto 13 = .ok (.iload 5, 2) := by decide +kernel
theorem dX0_mixInto_15 : decode cX0_mixInto 15 = .ok (.aload_n 0, 1) := by decide +kernel
theorem dX0_mixInto_16 : decode cX0_mixInto 16 = .ok (.getfield 15, 3) := by decide +kernel
theorem dX0_mixInto_19 : decode cX0_mixInto 19 = .ok (.if_icmp .ge 21, 3) := by decide +kernel
theorem dX0_mixInto_22 : decode cX0_mixInto 22 = .ok (.lload_n 3, 1) := by decide +kernel
theorem dX0_mixInto_23 : decode cX0_mixInto 23 = .ok (.aload_n 0, 1) := by decide +kernel
theorem dX0_mixInto_24 : decode cX0_mixInto 24 = .ok (.iload 5, 2) := by decide +kernel
theorem dX0_mixInto_26 : decode cX0_mixInto 26 = .ok (.invokevirtual 23, 3) := by decide +kernel
theorem dX0_mixInto_29 : decode cX0_mixInto 29 = .ok (.i2l, 1) := by decide +kernel
theorem dX0_mixInto_30 : decode cX0_mixInto 30 = .ok (.invokestatic 19, 3) := by decide +kernel
theorem dX0_mixInto_33 : decode cX0_mixInto 33 = .ok (.lstore_n 3, 1) := by decide +kernel
theorem dX0_mixInto_34 : decode cX0_mixInto 34 = .ok (.iinc 5 1, 3) := by decide +kernel
theorem dX0_mixInto_37 : decode cX0_mixInto 37 = .ok (.goto (-24), 3) := by decide +kernel
theorem dX0_mixInto_40 : decode cX0_mixInto 40 = .ok (.lload_n 3, 1) := by decide +kernel
theorem dX0_mixInto_41 : decode cX0_mixInto 41 = .ok (.lreturn, 1) := by decide +kernel
theorem dX1_init_0 : decode cX1_init 0 = .ok (.aload_n 0, 1) := by decide +kernel
theorem dX1_init_1 : decode cX1_init 1 = .ok (.invokespecial 3, 3) := by decide +kernel
theorem dX1_init_4 : decode cX1_init 4 = .ok (.aload_n 0, 1) := by decide +kernel
theorem dX1_init_5 : decode cX1_init 5 = .ok (.bipush 10, 2) := by decide +kernel
theorem dX1_init_7 : decode cX1_init 7 = .ok (.newarray .int, 2) := by decide +kernel
theorem dX1_init_9 : decode cX1_init 9 = .ok (.putfield 9, 3) := by decide +kernel
theorem dX1_init_12 : decode cX1_init 12 = .ok (.aload_n 0, 1) := by decide +kernel
theorem dX1_init_13 : decode cX1_init 13 = .ok (.bipush 10, 2) := by decide +kernel
theorem dX1_init_15 : decode cX1_init 15 = .ok (.newarray .int, 2) := by decide +kernel
theorem dX1_init_17 : decode cX1_init 17 = .ok (.putfield 15, 3) := by decide +kernel
theorem dX1_init_20 : decode cX1_init 20 = .ok (.aload_n 0, 1) := by decide +kernel
theorem dX1_init_21 : decode cX1_init 21 = .ok (.bipush 10, 2) := by decide +kernel
theorem dX1_init_23 : decode cX1_init 23 = .ok (.newarray .int, 2) := by decide +kernel
theorem dX1_init_25 : decode cX1_init 25 = .ok (.putfield 18, 3) := by decide +kernel
theorem dX1_init_28 : decode cX1_init 28 = .ok (.return_, 1) := by decide +kernel
theorem dX1_found_0 : decode cX1_found 0 = .ok (.iload_n 1, 1) := by decide +kernel
theorem dX1_found_1 : decode cX1_found 1 = .ok (.tableswitch 60 0 4 #[35, 40, 45, 50, 55], 35) := by decide +kernel
theorem dX1_found_36 : decode cX1_found 36 = .ok (.aload_n 0, 1) := by decide +kernel
theorem dX1_found_37 : decode cX1_found 37 = .ok (.getfield 21, 3) := by decide +kernel
theorem dX1_found_40 : decode cX1_found 40 = .ok (.ireturn, 1) := by decide +kernel
theorem dX1_found_41 : decode cX1_found 41 = .ok (.aload_n 0, 1) := by decide +kernel
theorem dX1_found_42 : decode cX1_found 42 = .ok (.getfield 25, 3) := by decide +kernel
theorem dX1_found_45 : decode cX1_found 45 = .ok (.ireturn, 1) := by decide +kernel
theorem dX1_found_46 : decode cX1_found 46 = .ok (.aload_n 0, 1) := by decide +kernel
theorem dX1_found_47 : decode cX1_found 47 = .ok (.getfield 28, 3) := by decide +kernel
theorem dX1_found_50 : decode cX1_found 50 = .ok (.ireturn, 1) := by decide +kernel
theorem dX1_found_51 : decode cX1_found 51 = .ok (.aload_n 0, 1) := by decide +kernel
theorem dX1_found_52 : decode cX1_found 52 = .ok (.getfield 31, 3) := by decide +kernel
theorem dX1_found_55 : decode cX1_found 55 = .ok (.ireturn, 1) := by decide +kernel
theorem dX1_found_56 : decode cX1_found 56 = .ok (.aload_n 0, 1) := by decide +kernel
theorem dX1_found_57 : decode cX1_found 57 = .ok (.getfield 34, 3) := by decide +kernel
theorem dX1_found_60 : decode cX1_found 60 = .ok (.ireturn, 1) := by decide +kernel
theorem dX1_found_61 : decode cX1_found 61 = .ok (.iconst (-1), 1) := by decide +kernel
theorem dX1_found_62 : decode cX1_found 62 = .ok (.ireturn, 1) := by decide +kernel
theorem dX1_seek_0 : decode cX1_seek 0 = .ok (.aload_n 0, 1) := by decide +kernel
theorem dX1_seek_1 : decode cX1_seek 1 = .ok (.iconst (-1), 1) := by decide +kernel
theorem dX1_seek_2 : decode cX1_seek 2 = .ok (.iconst (-1), 1) := by decide +kernel
theorem dX1_seek_3 : decode cX1_seek 3 = .ok (.iconst (-1), 1) := by decide +kernel
theorem dX1_seek_4 : decode cX1_seek 4 = .ok (.iconst (-1), 1) := by decide +kernel
theorem dX1_seek_5 : decode cX1_seek 5 = .ok (.iconst (-1), 1) := by decide +kernel
theorem dX1_seek_6 : decode cX1_seek 6 = .ok (.invokevirtual 37, 3) := by decide +kernel
theorem dX1_seek_9 : decode cX1_seek 9 = .ok (.aload_n 1, 1) := by decide +kernel
theorem dX1_seek_10 : decode cX1_seek 10 = .ok (.getfield 41, 3) := by decide +kernel
theorem dX1_seek_13 : decode cX1_seek 13 = .ok (.iload_n 2, 1) := by decide +kernel
theorem dX1_seek_14 : decode cX1_seek 14 = .ok (.invokevirtual 47, 3) := by decide +kernel
theorem dX1_seek_17 : decode cX1_seek 17 = .ok (.ifCond .eq 11, 3) := by decide +kernel
theorem dX1_seek_20 : decode cX1_seek 20 = .ok (.aload_n 1, 1) := by decide +kernel
theorem dX1_seek_21 : decode cX1_seek 21 = .ok (.iload_n 2, 1) := by decide +kernel
theorem dX1_seek_22 : decode cX1_seek 22 = .ok (.invokevirtual 53, 3) := by decide +kernel
theorem dX1_seek_25 : decode cX1_seek 25 = .ok (.ifCond .ne 4, 3) := by decide +kernel
theorem dX1_seek_28 : decode cX1_seek 28 = .ok (.return_, 1) := by decide +kernel
theorem dX1_seek_29 : decode cX1_seek 29 = .ok (.aload_n 0, 1) := by decide +kernel
theorem dX1_seek_30 : decode cX1_seek 30 = .ok (.aload_n 1, 1) := by decide +kernel
theorem dX1_seek_31 : decode cX1_seek 31 = .ok (.iload_n 2, 1) := by decide +kernel
theorem dX1_seek_32 : decode cX1_seek 32 = .ok (.invokevirtual 56, 3) := by decide +kernel
theorem dX1_seek_35 : decode cX1_seek 35 = .ok (.iconst 1, 1) := by decide +kernel
theorem dX1_seek_36 : decode cX1_seek 36 = .ok (.istore_n 3, 1) := by decide +kernel
theorem dX1_seek_37 : decode cX1_seek 37 = .ok (.iload_n 3, 1) := by decide +kernel
theorem dX1_seek_38 : decode cX1_seek 38 = .ok (.iconst 3, 1) := by decide +kernel
theorem dX1_seek_39 : decode cX1_seek 39 = .ok (.if_icmp .gt 95, 3) := by decide +kernel
theorem dX1_seek_42 : decode cX1_seek 42 = .ok (.iload_n 3, 1) := by decide +kernel
theorem dX1_seek_43 : decode cX1_seek 43 = .ok (.iconst 1, 1) := by decide +kernel
theorem dX1_seek_44 : decode cX1_seek 44 = .ok (.if_icmp .le 10, 3) := by decide +kernel
theorem dX1_seek_47 : decode cX1_seek 47 = .ok (.aload_n 0, 1) := by decide +kernel
theorem dX1_seek_48 : decode cX1_seek 48 = .ok (.getfield 60, 3) := by decide +kernel
theorem dX1_seek_51 : decode cX1_seek 51 = .ok (.goto 12, 3) := by decide +kernel
theorem dX1_seek_54 : decode cX1_seek 54 = .ok (.aload_n 0, 1) := by decide +kernel
theorem dX1_seek_55 : decode cX1_seek 55 = .ok (.getfield 60, 3) := by decide +kernel
theorem dX1_seek_58 : decode cX1_seek 58 = .ok (.aload_n 0, 1) := by decide +kernel
theorem dX1_seek_59 : decode cX1_seek 59 = .ok (.getfield 63, 3) := by decide +kernel
theorem dX1_seek_62 : decode cX1_seek 62 = .ok (.iand, 1) := by decide +kernel
theorem dX1_seek_63 : decode cX1_seek 63 = .ok (.istore 4, 2) := by decide +kernel
theorem dX1_seek_65 : decode cX1_seek 65 = .ok (.iconst 0, 1) := by decide +kernel
theorem dX1_seek_66 : decode cX1_seek 66 = .ok (.istore 5, 2) := by decide +kernel
theorem dX1_seek_68 : decode cX1_seek 68 = .ok (.iload 5, 2) := by decide +kernel
theorem dX1_seek_70 : decode cX1_seek 70 = .ok (.aload_n 0, 1) := by decide +kernel
theorem dX1_seek_71 : decode cX1_seek 71 = .ok (.getfield 66, 3) := by decide +kernel
theorem dX1_seek_74 : decode cX1_seek 74 = .ok (.if_icmp .ge 54, 3) := by decide +kernel
theorem dX1_seek_77 : decode cX1_seek 77 = .ok (.iload 4, 2) := by decide +kernel
theorem dX1_seek_79 : decode cX1_seek 79 = .ok (.iload 5, 2) := by decide +kernel
theorem dX1_seek_81 : decode cX1_seek 81 = .ok (.invokestatic 69, 3) := by decide +kernel
theorem dX1_seek_84 : decode cX1_seek 84 = .ok (.iand, 1) := by decide +kernel
theorem dX1_seek_85 : decode cX1_seek 85 = .ok (.ifCond .ne 6, 3) := by decide +kernel
theorem dX1_seek_88 : decode cX1_seek 88 = .ok (.goto 34, 3) := by decide +kernel
theorem dX1_seek_91 : decode cX1_seek 91 = .ok (.iload_n 3, 1) := by decide +kernel
theorem dX1_seek_92 : decode cX1_seek 92 = .ok (.iconst 1, 1) := by decide +kernel
theorem dX1_seek_93 : decode cX1_seek 93 = .ok (.if_icmp .le 13, 3) := by decide +kernel
theorem dX1_seek_96 : decode cX1_seek 96 = .ok (.aload_n 0, 1) := by decide +kernel
theorem dX1_seek_97 : decode cX1_seek 97 = .ok (.iload 5, 2) := by decide +kernel
theorem dX1_seek_99 : decode cX1_seek 99 = .ok (.iload_n 3, 1) := by decide +kernel
theorem dX1_seek_100 : decode cX1_seek 100 = .ok (.invokevirtual 73, 3) := by decide +kernel
theorem dX1_seek_103 : decode cX1_seek 103 = .ok (.goto 19, 3) := by decide +kernel
theorem dX1_seek_106 : decode cX1_seek 106 = .ok (.aload_n 0, 1) := by decide +kernel
theorem dX1_seek_107 : decode cX1_seek 107 = .ok (.aload_n 0, 1) := by decide +kernel
theorem dX1_seek_108 : decode cX1_seek 108 = .ok (.getfield 15, 3) := by decide +kernel
theorem dX1_seek_111 : decode cX1_seek 111 = .ok (.iload 5, 2) := by decide +kernel
theorem dX1_seek_113 : decode cX1_seek 113 = .ok (.iaload, 1) := by decide +kernel
theorem dX1_seek_114 : decode cX1_seek 114 = .ok (.iconst 1, 1) := by decide +kernel
theorem dX1_seek_115 : decode cX1_seek 115 = .ok (.iload 5, 2) := by decide +kernel
theorem dX1_seek_117 : decode cX1_seek 117 = .ok (.iconst (-1), 1) := by decide +kernel
theorem dX1_seek_118 : decode cX1_seek 118 = .ok (.iconst (-1), 1) := by decide +kernel
theorem dX1_seek_119 : decode cX1_seek 119 = .ok (.invokevirtual 77, 3) := by decide +kernel
theorem dX1_seek_122 : decode cX1_seek 122 = .ok (.iinc 5 1, 3) := by decide +kernel
theorem dX1_seek_125 : decode cX1_seek 125 = .ok (.goto (-57), 3) := by decide +kernel
theorem dX1_seek_128 : decode cX1_seek 128 = .ok (.iinc 3 1, 3) := by decide +kernel
theorem dX1_seek_131 : decode cX1_seek 131 = .ok (.goto (-94), 3) := by decide +kernel
theorem dX1_seek_134 : decode cX1_seek 134 = .ok (.return_, 1) := by decide +kernel
theorem dX1_prepare_0 : decode cX1_prepare 0 = .ok (.aload_n 1, 1) := by decide +kernel
theorem dX1_prepare_1 : decode cX1_prepare 1 = .ok (.getfield 80, 3) := by decide +kernel
theorem dX1_prepare_4 : decode cX1_prepare 4 = .ok (.astore_n 3, 1) := by decide +kernel
theorem dX1_prepare_5 : decode cX1_prepare 5 = .ok (.aload_n 3, 1) := by decide +kernel
theorem dX1_prepare_6 : decode cX1_prepare 6 = .ok (.aload_n 1, 1) := by decide +kernel
theorem dX1_prepare_7 : decode cX1_prepare 7 = .ok (.getfield 41, 3) := by decide +kernel
theorem dX1_prepare_10 : decode cX1_prepare 10 = .ok (.getfield 84, 3) := by decide +kernel
theorem dX1_prepare_13 : decode cX1_prepare 13 = .ok (.iload_n 2, 1) := by decide +kernel
theorem dX1_prepare_14 : decode cX1_prepare 14 = .ok (.iaload, 1) := by decide +kernel
theorem dX1_prepare_15 : decode cX1_prepare 15 = .ok (.invokevirtual 87, 3) := by decide +kernel
theorem dX1_prepare_18 : decode cX1_prepare 18 = .ok (.aload_n 1, 1) := by decide +kernel
theorem dX1_prepare_19 : decode cX1_prepare 19 = .ok (.getfield 41, 3) := by decide +kernel
theorem dX1_prepare_22 : decode cX1_prepare 22 = .ok (.iload_n 2, 1) := by decide +kernel
theorem dX1_prepare_23 : decode cX1_prepare 23 = .ok (.invokevirtual 92, 3) := by decide +kernel
theorem dX1_prepare_26 : decode cX1_prepare 26 = .ok (.iconst (-1), 1) := by decide +kernel
theorem dX1_prepare_27 : decode cX1_prepare 27 = .ok (.ixor, 1) := by decide +kernel
theorem dX1_prepare_28 : decode cX1_prepare 28 = .ok (.iand, 1) := by decide +kernel
theorem dX1_prepare_29 : decode cX1_prepare 29 = .ok (.istore 4, 2) := by decide +kernel
theorem dX1_prepare_31 : decode cX1_prepare 31 = .ok (.aload_n 0, 1) := by decide +kernel
theorem dX1_prepare_32 : decode cX1_prepare 32 = .ok (.aload_n 3, 1) := by decide +kernel
theorem dX1_prepare_33 : decode cX1_prepare 33 = .ok (.getfield 95, 3) := by decide +kernel
theorem dX1_prepare_36 : decode cX1_prepare 36 = .ok (.putfield 66, 3) := by decide +kernel
theorem dX1_prepare_39 : decode cX1_prepare 39 = .ok (.aload_n 0, 1) := by decide +kernel
theorem dX1_prepare_40 : decode cX1_prepare 40 = .ok (.iload 4, 2) := by decide +kernel
theorem dX1_prepare_42 : decode cX1_prepare 42 = .ok (.aload_n 3, 1) := by decide +kernel
theorem dX1_prepare_43 : decode cX1_prepare 43 = .ok (.iconst 1, 1) := by decide +kernel
theorem dX1_prepare_44 : decode cX1_prepare 44 = .ok (.aload_n 1, 1) := by decide +kernel
theorem dX1_prepare_45 : decode cX1_prepare 45 = .ok (.getfield 41, 3) := by decide +kernel
theorem dX1_prepare_48 : decode cX1_prepare 48 = .ok (.getfield 98, 3) := by decide +kernel
theorem dX1_prepare_51 : decode cX1_prepare 51 = .ok (.iload_n 2, 1) := by decide +kernel
theorem dX1_prepare_52 : decode cX1_prepare 52 = .ok (.iaload, 1) := by decide +kernel
theorem dX1_prepare_53 : decode cX1_prepare 53 = .ok (.ishl, 1) := by decide +kernel
theorem dX1_prepare_54 : decode cX1_prepare 54 = .ok (.invokevirtual 101, 3) := by decide +kernel
theorem dX1_prepare_57 : decode cX1_prepare 57 = .ok (.iand, 1) := by decide +kernel
theorem dX1_prepare_58 : decode cX1_prepare 58 = .ok (.putfield 60, 3) := by decide +kernel
theorem dX1_prepare_61 : decode cX1_prepare 61 = .ok (.aload_n 0, 1) := by decide +kernel
theorem dX1_prepare_62 : decode cX1_prepare 62 = .ok (.iload 4, 2) := by decide +kernel
theorem dX1_prepare_64 : decode cX1_prepare 64 = .ok (.aload_n 3, 1) := by decide +kernel
theorem dX1_prepare_65 : decode cX1_prepare 65 = .ok (.iconst 1, 1) := by decide +kernel
theorem dX1_prepare_66 : decode cX1_prepare 66 = .ok (.invokevirtual 101, 3) := by decide +kernel
theorem dX1_prepare_69 : decode cX1_prepare 69 = .ok (.iand, 1) := by decide +kernel
theorem dX1_prepare_70 : decode cX1_prepare 70 = .ok (.putfield 63, 3) := by decide +kernel
theorem dX1_prepare_73 : decode cX1_prepare 73 = .ok (.iconst 0, 1) := by decide +kernel
theorem dX1_prepare_74 : decode cX1_prepare 74 = .ok (.istore 5, 2) := by decide +kernel
theorem dX1_prepare_76 : decode cX1_prepare 76 = .ok (.iload 5, 2) := by decide +kernel
theorem dX1_prepare_78 : decode cX1_prepare 78 = .ok (.aload_n 0, 1) := by decide +kernel
theorem dX1_prepare_79 : decode cX1_prepare 79 = .ok (.getfield 66, 3) := by decide +kernel
theorem dX1_prepare_82 : decode cX1_prepare 82 = .ok (.if_icmp .ge 68, 3) := by decide +kernel
theorem dX1_prepare_85 : decode cX1_prepare 85 = .ok (.aload_n 0, 1) := by decide +kernel
theorem dX1_prepare_86 : decode cX1_prepare 86 = .ok (.getfield 9, 3) := by decide +kernel
theorem dX1_prepare_89 : decode cX1_prepare 89 = .ok (.iload 5, 2) := by decide +kernel
theorem dX1_prepare_91 : decode cX1_prepare 91 = .ok (.iload 4, 2) := by decide +kernel
theorem dX1_prepare_93 : decode cX1_prepare 93 = .ok (.aload_n 3, 1) := by decide +kernel
theorem dX1_prepare_94 : decode cX1_prepare 94 = .ok (.aload_n 3, 1) := by decide +kernel
theorem dX1_prepare_95 : decode cX1_prepare 95 = .ok (.getfield 104, 3) := by decide +kernel
theorem dX1_prepare_98 : decode cX1_prepare 98 = .ok (.iload 5, 2) := by decide +kernel
theorem dX1_prepare_100 : decode cX1_prepare 100 = .ok (.iaload, 1) := by decide +kernel
theorem dX1_prepare_101 : decode cX1_prepare 101 = .ok (.invokevirtual 101, 3) := by decide +kernel
theorem dX1_prepare_104 : decode cX1_prepare 104 = .ok (.iand, 1) := by decide +kernel
theorem dX1_prepare_105 : decode cX1_prepare 105 = .ok (.iload 5, 2) := by decide +kernel
theorem dX1_prepare_107 : decode cX1_prepare 107 = .ok (.invokestatic 69, 3) := by decide +kernel
theorem dX1_prepare_110 : decode cX1_prepare 110 = .ok (.iconst (-1), 1) := by decide +kernel
theorem dX1_prepare_111 : decode cX1_prepare 111 = .ok (.ixor, 1) := by decide +kernel
theorem dX1_prepare_112 : decode cX1_prepare 112 = .ok (.iand, 1) := by decide +kernel
theorem dX1_prepare_113 : decode cX1_prepare 113 = .ok (.iastore, 1) := by decide +kernel
theorem dX1_prepare_114 : decode cX1_prepare 114 = .ok (.aload_n 0, 1) := by decide +kernel
theorem dX1_prepare_115 : decode cX1_prepare 115 = .ok (.getfield 15, 3) := by decide +kernel
theorem dX1_prepare_118 : decode cX1_prepare 118 = .ok (.iload 5, 2) := by decide +kernel
theorem dX1_prepare_120 : decode cX1_prepare 120 = .ok (.aload_n 1, 1) := by decide +kernel
theorem dX1_prepare_121 : decode cX1_prepare 121 = .ok (.iload 5, 2) := by decide +kernel
theorem dX1_prepare_123 : decode cX1_prepare 123 = .ok (.iload_n 2, 1) := by decide +kernel
theorem dX1_prepare_124 : decode cX1_prepare 124 = .ok (.iconst 0, 1) := by decide +kernel
theorem dX1_prepare_125 : decode cX1_prepare 125 = .ok (.invokevirtual 107, 3) := by decide +kernel
theorem dX1_prepare_128 : decode cX1_prepare 128 = .ok (.iastore, 1) := by decide +kernel
theorem dX1_prepare_129 : decode cX1_prepare 129 = .ok (.aload_n 0, 1) := by decide +kernel
theorem dX1_prepare_130 : decode cX1_prepare 130 = .ok (.getfield 18, 3) := by decide +kernel
theorem dX1_prepare_133 : decode cX1_prepare 133 = .ok (.iload 5, 2) := by decide +kernel
theorem dX1_prepare_135 : decode cX1_prepare 135 = .ok (.aload_n 1, 1) := by decide +kernel
theorem dX1_prepare_136 : decode cX1_prepare 136 = .ok (.iload 5, 2) := by decide +kernel
theorem dX1_prepare_138 : decode cX1_prepare 138 = .ok (.iload_n 2, 1) := by decide +kernel
theorem dX1_prepare_139 : decode cX1_prepare 139 = .ok (.iconst 1, 1) := by decide +kernel
theorem dX1_prepare_140 : decode cX1_prepare 140 = .ok (.invokevirtual 107, 3) := by decide +kernel
theorem dX1_prepare_143 : decode cX1_prepare 143 = .ok (.iastore, 1) := by decide +kernel
theorem dX1_prepare_144 : decode cX1_prepare 144 = .ok (.iinc 5 1, 3) := by decide +kernel
theorem dX1_prepare_147 : decode cX1_prepare 147 = .ok (.goto (-71), 3) := by decide +kernel
theorem dX1_prepare_150 : decode cX1_prepare 150 = .ok (.return_, 1) := by decide +kernel
theorem dX1_trySeconds_0 : decode cX1_trySeconds 0 = .ok (.iload_n 2, 1) := by decide +kernel
theorem dX1_trySeconds_1 : decode cX1_trySeconds 1 = .ok (.iconst 2, 1) := by decide +kernel
theorem dX1_trySeconds_2 : decode cX1_trySeconds 2 = .ok (.if_icmp .le 12, 3) := by decide +kernel
theorem dX1_trySeconds_5 : decode cX1_trySeconds 5 = .ok (.aload_n 0, 1) := by decide +kernel
theorem dX1_trySeconds_6 : decode cX1_trySeconds 6 = .ok (.getfield 9, 3) := by decide +kernel
theorem dX1_trySeconds_9 : decode cX1_trySeconds 9 = .ok (.iload_n 1, 1) := by decide +kernel
theorem dX1_trySeconds_10 : decode cX1_trySeconds 10 = .ok (.iaload, 1) := by decide +kernel
theorem dX1_trySeconds_11 : decode cX1_trySeconds 11 = .ok (.goto 14, 3) := by decide +kernel
theorem dX1_trySeconds_14 : decode cX1_trySeconds 14 = .ok (.aload_n 0, 1) := by decide +kernel
theorem dX1_trySeconds_15 : decode cX1_trySeconds 15 = .ok (.getfield 9, 3) := by decide +kernel
theorem dX1_trySeconds_18 : decode cX1_trySeconds 18 = .ok (.iload_n 1, 1) := by decide +kernel
theorem dX1_trySeconds_19 : decode cX1_trySeconds 19 = .ok (.iaload, 1) := by decide +kernel
theorem dX1_trySeconds_20 : decode cX1_trySeconds 20 = .ok (.aload_n 0, 1) := by decide +kernel
theorem dX1_trySeconds_21 : decode cX1_trySeconds 21 = .ok (.getfield 63, 3) := by decide +kernel
theorem dX1_trySeconds_24 : decode cX1_trySeconds 24 = .ok (.iand, 1) := by decide +kernel
theorem dX1_trySeconds_25 : decode cX1_trySeconds 25 = .ok (.istore_n 3, 1) := by decide +kernel
theorem dX1_trySeconds_26 : decode cX1_trySeconds 26 = .ok (.iconst 0, 1) := by decide +kernel
theorem dX1_trySeconds_27 : decode cX1_trySeconds 27 = .ok (.istore 4, 2) := by decide +kernel
theorem dX1_trySeconds_29 : decode cX1_trySeconds 29 = .ok (.iload 4, 2) := by decide +kernel
theorem dX1_trySeconds_31 : decode cX1_trySeconds 31 = .ok (.aload_n 0, 1) := by decide +kernel
theorem dX1_trySeconds_32 : decode cX1_trySeconds 32 = .ok (.getfield 66, 3) := by decide +kernel
theorem dX1_trySeconds_35 : decode cX1_trySeconds 35 = .ok (.if_icmp .ge 60, 3) := by decide +kernel
theorem dX1_trySeconds_38 : decode cX1_trySeconds 38 = .ok (.iload_n 3, 1) := by decide +kernel
theorem dX1_trySeconds_39 : decode cX1_trySeconds 39 = .ok (.iload 4, 2) := by decide +kernel
theorem dX1_trySeconds_41 : decode cX1_trySeconds 41 = .ok (.invokestatic 69, 3) := by decide +kernel
theorem dX1_trySeconds_44 : decode cX1_trySeconds 44 = .ok (.iand, 1) := by decide +kernel
theorem dX1_trySeconds_45 : decode cX1_trySeconds 45 = .ok (.ifCond .ne 6, 3) := by decide +kernel
theorem dX1_trySeconds_48 : decode cX1_trySeconds 48 = .ok (.goto 41, 3) := by decide +kernel
theorem dX1_trySeconds_51 : decode cX1_trySeconds 51 = .ok (.iload_n 2, 1) := by decide +kernel
theorem dX1_trySeconds_52 : decode cX1_trySeconds 52 = .ok (.iconst 2, 1) := by decide +kernel
theorem dX1_trySeconds_53 : decode cX1_trySeconds 53 = .ok (.if_icmp .le 13, 3) := by decide +kernel
theorem dX1_trySeconds_56 : decode cX1_trySeconds 56 = .ok (.aload_n 0, 1) := by decide +kernel
theorem dX1_trySeconds_57 : decode cX1_trySeconds 57 = .ok (.iload_n 1, 1) := by decide +kernel
theorem dX1_trySeconds_58 : decode cX1_trySeconds 58 = .ok (.iload 4, 2) := by decide +kernel
theorem dX1_trySeconds_60 : decode cX1_trySeconds 60 = .ok (.invokevirtual 111, 3) := by decide +kernel
theorem dX1_trySeconds_63 : decode cX1_trySeconds 63 = .ok (.goto 26, 3) := by decide +kernel
theorem dX1_trySeconds_66 : decode cX1_trySeconds 66 = .ok (.aload_n 0, 1) := by decide +kernel
theorem dX1_trySeconds_67 : decode cX1_trySeconds 67 = .ok (.aload_n 0, 1) := by decide +kernel
theorem dX1_trySeconds_68 : decode cX1_trySeconds 68 = .ok (.getfield 18, 3) := by decide +kernel
theorem dX1_trySeconds_71 : decode cX1_trySeconds 71 = .ok (.iload_n 1, 1) := by decide +kernel
theorem dX1_trySeconds_72 : decode cX1_trySeconds 72 = .ok (.iaload, 1) := by decide +kernel
theorem dX1_trySeconds_73 : decode cX1_trySeconds 73 = .ok (.aload_n 0, 1) := by decide +kernel
theorem dX1_trySeconds_74 : decode cX1_trySeconds 74 = .ok (.getfield 18, 3) := by decide +kernel
theorem dX1_trySeconds_77 : decode cX1_trySeconds 77 = .ok (.iload 4, 2) := by decide +kernel
theorem dX1_trySeconds_79 : decode cX1_trySeconds 79 = .ok (.iaload, 1) := by decide +kernel
theorem dX1_trySeconds_80 : decode cX1_trySeconds 80 = .ok (.iadd, 1) := by decide +kernel
theorem dX1_trySeconds_81 : decode cX1_trySeconds 81 = .ok (.iconst 2, 1) := by decide +kernel
theorem dX1_trySeconds_82 : decode cX1_trySeconds 82 = .ok (.iload_n 1, 1) := by decide +kernel
theorem dX1_trySeconds_83 : decode cX1_trySeconds 83 = .ok (.iload 4, 2) := by decide +kernel
theorem dX1_trySeconds_85 : decode cX1_trySeconds 85 = .ok (.iconst (-1), 1) := by decide +kernel
theorem dX1_trySeconds_86 : decode cX1_trySeconds 86 = .ok (.invokevirtual 77, 3) := by decide +kernel
theorem dX1_trySeconds_89 : decode cX1_trySeconds 89 = .ok (.iinc 4 1, 3) := by decide +kernel
theorem dX1_trySeconds_92 : decode cX1_trySeconds 92 = .ok (.goto (-63), 3) := by decide +kernel
theorem dX1_trySeconds_95 : decode cX1_trySeconds 95 = .ok (.return_, 1) := by decide +kernel
theorem dX1_tryThirds_0 : decode cX1_tryThirds 0 = .ok (.aload_n 0, 1) := by decide +kernel
theorem dX1_tryThirds_1 : decode cX1_tryThirds 1 = .ok (.getfield 9, 3) := by decide +kernel
theorem dX1_tryThirds_4 : decode cX1_tryThirds 4 = .ok (.iload_n 2, 1) := by decide +kernel
theorem dX1_tryThirds_5 : decode cX1_tryThirds 5 = .ok (.iaload, 1) := by decide +kernel
theorem dX1_tryThirds_6 : decode cX1_tryThirds 6 = .ok (.aload_n 0, 1) := by decide +kernel
theorem dX1_tryThirds_7 : decode cX1_tryThirds 7 = .ok (.getfield 63, 3) := by decide +kernel
theorem dX1_tryThirds_10 : decode cX1_tryThirds 10 = .ok (.iand, 1) := by decide +kernel
theorem dX1_tryThirds_11 : decode cX1_tryThirds 11 = .ok (.iload_n 1, 1) := by decide +kernel
theorem dX1_tryThirds_12 : decode cX1_tryThirds 12 = .ok (.invokestatic 69, 3) := by decide +kernel
theorem dX1_tryThirds_15 : decode cX1_tryThirds 15 = .ok (.iconst (-1), 1) := by decide +kernel
theorem dX1_tryThirds_16 : decode cX1_tryThirds 16 = .ok (.ixor, 1) := by decide +kernel
theorem dX1_tryThirds_17 : decode cX1_tryThirds 17 = .ok (.iand, 1) := by decide +kernel
theorem dX1_tryThirds_18 : decode cX1_tryThirds 18 = .ok (.istore_n 3, 1) := by decide +kernel
theorem dX1_tryThirds_19 : decode cX1_tryThirds 19 = .ok (.iconst 0, 1) := by decide +kernel
theorem dX1_tryThirds_20 : decode cX1_tryThirds 20 = .ok (.istore 4, 2) := by decide +kernel
theorem dX1_tryThirds_22 : decode cX1_tryThirds 22 = .ok (.iload 4, 2) := by decide +kernel
theorem dX1_tryThirds_24 : decode cX1_tryThirds 24 = .ok (.aload_n 0, 1) := by decide +kernel
theorem dX1_tryThirds_25 : decode cX1_tryThirds 25 = .ok (.getfield 66, 3) := by decide +kernel
theorem dX1_tryThirds_28 : decode cX1_tryThirds 28 = .ok (.if_icmp .ge 49, 3) := by decide +kernel
theorem dX1_tryThirds_31 : decode cX1_tryThirds 31 = .ok (.iload_n 3, 1) := by decide +kernel
theorem dX1_tryThirds_32 : decode cX1_tryThirds 32 = .ok (.iload 4, 2) := by decide +kernel
theorem dX1_tryThirds_34 : decode cX1_tryThirds 34 = .ok (.invokestatic 69, 3) := by decide +kernel
theorem dX1_tryThirds_37 : decode cX1_tryThirds 37 = .ok (.iand, 1) := by decide +kernel
theorem dX1_tryThirds_38 : decode cX1_tryThirds 38 = .ok (.ifCond .eq 33, 3) := by decide +kernel
theorem dX1_tryThirds_41 : decode cX1_tryThirds 41 = .ok (.aload_n 0, 1) := by decide +kernel
theorem dX1_tryThirds_42 : decode cX1_tryThirds 42 = .ok (.aload_n 0, 1) := by decide +kernel
theorem dX1_tryThirds_43 : decode cX1_tryThirds 43 = .ok (.getfield 18, 3) := by decide +kernel
theorem dX1_tryThirds_46 : decode cX1_tryThirds 46 = .ok (.iload_n 1, 1) := by decide +kernel
theorem dX1_tryThirds_47 : decode cX1_tryThirds 47 = .ok (.iaload, 1) := by decide +kernel
theorem dX1_tryThirds_48 : decode cX1_tryThirds 48 = .ok (.aload_n 0, 1) := by decide +kernel
theorem dX1_tryThirds_49 : decode cX1_tryThirds 49 = .ok (.getfield 18, 3) := by decide +kernel
theorem dX1_tryThirds_52 : decode cX1_tryThirds 52 = .ok (.iload_n 2, 1) := by decide +kernel
theorem dX1_tryThirds_53 : decode cX1_tryThirds 53 = .ok (.iaload, 1) := by decide +kernel
theorem dX1_tryThirds_54 : decode cX1_tryThirds 54 = .ok (.iadd, 1) := by decide +kernel
theorem dX1_tryThirds_55 : decode cX1_tryThirds 55 = .ok (.aload_n 0, 1) := by decide +kernel
theorem dX1_tryThirds_56 : decode cX1_tryThirds 56 = .ok (.getfield 18, 3) := by decide +kernel
theorem dX1_tryThirds_59 : decode cX1_tryThirds 59 = .ok (.iload 4, 2) := by decide +kernel
theorem dX1_tryThirds_61 : decode cX1_tryThirds 61 = .ok (.iaload, 1) := by decide +kernel
theorem dX1_tryThirds_62 : decode cX1_tryThirds 62 = .ok (.iadd, 1) := by decide +kernel
theorem dX1_tryThirds_63 : decode cX1_tryThirds 63 = .ok (.iconst 3, 1) := by decide +kernel
theorem dX1_tryThirds_64 : decode cX1_tryThirds 64 = .ok (.iload_n 1, 1) := by decide +kernel
theorem dX1_tryThirds_65 : decode cX1_tryThirds 65 = .ok (.iload_n 2, 1) := by decide +kernel
theorem dX1_tryThirds_66 : decode cX1_tryThirds 66 = .ok (.iload 4, 2) := by decide +kernel
theorem dX1_tryThirds_68 : decode cX1_tryThirds 68 = .ok (.invokevirtual 77, 3) := by decide +kernel
theorem dX1_tryThirds_71 : decode cX1_tryThirds 71 = .ok (.iinc 4 1, 3) := by decide +kernel
theorem dX1_tryThirds_74 : decode cX1_tryThirds 74 = .ok (.goto (-52), 3) := by decide +kernel
theorem dX1_tryThirds_77 : decode cX1_tryThirds 77 = .ok (.return_, 1) := by decide +kernel
theorem dX1_offer_0 : decode cX1_offer 0 = .ok (.aload_n 0, 1) := by decide +kernel
theorem dX1_offer_1 : decode cX1_offer 1 = .ok (.getfield 21, 3) := by decide +kernel
theorem dX1_offer_4 : decode cX1_offer 4 = .ok (.iconst (-1), 1) := by decide +kernel
theorem dX1_offer_5 : decode cX1_offer 5 = .ok (.if_icmp .eq 11, 3) := by decide +kernel
theorem dX1_offer_8 : decode cX1_offer 8 = .ok (.iload_n 1, 1) := by decide +kernel
theorem dX1_offer_9 : decode cX1_offer 9 = .ok (.aload_n 0, 1) := by decide +kernel
theorem dX1_offer_10 : decode cX1_offer 10 = .ok (.getfield 21, 3) := by decide +kernel
theorem dX1_offer_13 : decode cX1_offer 13 = .ok (.if_icmp .ge 14, 3) := by decide +kernel
theorem dX1_offer_16 : decode cX1_offer 16 = .ok (.aload_n 0, 1) := by decide +kernel
theorem dX1_offer_17 : decode cX1_offer 17 = .ok (.iload_n 1, 1) := by decide +kernel
theorem dX1_offer_18 : decode cX1_offer 18 = .ok (.iload_n 2, 1) := by decide +kernel
theorem dX1_offer_19 : decode cX1_offer 19 = .ok (.iload_n 3, 1) := by decide +kernel
theorem dX1_offer_20 : decode cX1_offer 20 = .ok (.iload 4, 2) := by decide +kernel
theorem dX1_offer_22 : decode cX1_offer 22 = .ok (.iload 5, 2) := by decide +kernel
theorem dX1_offer_24 : decode cX1_offer 24 = .ok (.invokevirtual 37, 3) := by decide +kernel
theorem dX1_offer_27 : decode cX1_offer 27 = .ok (.return_, 1) := by decide +kernel
theorem dX1_keep_0 : decode cX1_keep 0 = .ok (.aload_n 0, 1) := by decide +kernel
theorem dX1_keep_1 : decode cX1_keep 1 = .ok (.iload_n 1, 1) := by decide +kernel
theorem dX1_keep_2 : decode cX1_keep 2 = .ok (.putfield 21, 3) := by decide +kernel
theorem dX1_keep_5 : decode cX1_keep 5 = .ok (.aload_n 0, 1) := by decide +kernel
theorem dX1_keep_6 : decode cX1_keep 6 = .ok (.iload_n 2, 1) := by decide +kernel
theorem dX1_keep_7 : decode cX1_keep 7 = .ok (.putfield 25, 3) := by decide +kernel
theorem dX1_keep_10 : decode cX1_keep 10 = .ok (.aload_n 0, 1) := by decide +kernel
theorem dX1_keep_11 : decode cX1_keep 11 = .ok (.iload_n 3, 1) := by decide +kernel
theorem dX1_keep_12 : decode cX1_keep 12 = .ok (.putfield 28, 3) := by decide +kernel
theorem dX1_keep_15 : decode cX1_keep 15 = .ok (.aload_n 0, 1) := by decide +kernel
theorem dX1_keep_16 : decode cX1_keep 16 = .ok (.iload 4, 2) := by decide +kernel
theorem dX1_keep_18 : decode cX1_keep 18 = .ok (.putfield 31, 3) := by decide +kernel
theorem dX1_keep_21 : decode cX1_keep 21 = .ok (.aload_n 0, 1) := by decide +kernel
theorem dX1_keep_22 : decode cX1_keep 22 = .ok (.iload 5, 2) := by decide +kernel
theorem dX1_keep_24 : decode cX1_keep 24 = .ok (.putfield 34, 3) := by decide +kernel
theorem dX1_keep_27 : decode cX1_keep 27 = .ok (.return_, 1) := by decide +kernel
theorem dX2_init_0 : decode cX2_init 0 = .ok (.aload_n 0, 1) := by decide +kernel
theorem dX2_init_1 : decode cX2_init 1 = .ok (.invokespecial 3, 3) := by decide +kernel
theorem dX2_init_4 : decode cX2_init 4 = .ok (.aload_n 0, 1) := by decide +kernel
theorem dX2_init_5 : decode cX2_init 5 = .ok (.new 9, 3) := by decide +kernel
theorem dX2_init_8 : decode cX2_init 8 = .ok (.dup, 1) := by decide +kernel
theorem dX2_init_9 : decode cX2_init 9 = .ok (.invokespecial 11, 3) := by decide +kernel
theorem dX2_init_12 : decode cX2_init 12 = .ok (.putfield 12, 3) := by decide +kernel
theorem dX2_init_15 : decode cX2_init 15 = .ok (.aload_n 0, 1) := by decide +kernel
theorem dX2_init_16 : decode cX2_init 16 = .ok (.new 18, 3) := by decide +kernel
theorem dX2_init_19 : decode cX2_init 19 = .ok (.dup, 1) := by decide +kernel
theorem dX2_init_20 : decode cX2_init 20 = .ok (.invokespecial 20, 3) := by decide +kernel
theorem dX2_init_23 : decode cX2_init 23 = .ok (.putfield 21, 3) := by decide +kernel
theorem dX2_init_26 : decode cX2_init 26 = .ok (.aload_n 0, 1) := by decide +kernel
theorem dX2_init_27 : decode cX2_init 27 = .ok (.getstatic 25, 3) := by decide +kernel
theorem dX2_init_30 : decode cX2_init 30 = .ok (.invokevirtual 29, 3) := by decide +kernel
theorem dX2_init_33 : decode cX2_init 33 = .ok (.checkcast 30, 3) := by decide +kernel
theorem dX2_init_36 : decode cX2_init 36 = .ok (.putfield 34, 3) := by decide +kernel
theorem dX2_init_39 : decode cX2_init 39 = .ok (.return_, 1) := by decide +kernel
theorem dX2_copyFrom_0 : decode cX2_copyFrom 0 = .ok (.aload_n 0, 1) := by decide +kernel
theorem dX2_copyFrom_1 : decode cX2_copyFrom 1 = .ok (.getfield 12, 3) := by decide +kernel
theorem dX2_copyFrom_4 : decode cX2_copyFrom 4 = .ok (.aload_n 1, 1) := by decide +kernel
theorem dX2_copyFrom_5 : decode cX2_copyFrom 5 = .ok (.getfield 12, 3) := by decide +kernel
theorem dX2_copyFrom_8 : decode cX2_copyFrom 8 = .ok (.invokevirtual 37, 3) := by decide +kernel
theorem dX2_copyFrom_11 : decode cX2_copyFrom 11 = .ok (.aload_n 0, 1) := by decide +kernel
theorem dX2_copyFrom_12 : decode cX2_copyFrom 12 = .ok (.getfield 21, 3) := by decide +kernel
theorem dX2_copyFrom_15 : decode cX2_copyFrom 15 = .ok (.aload_n 1, 1) := by decide +kernel
theorem dX2_copyFrom_16 : decode cX2_copyFrom 16 = .ok (.getfield 21, 3) := by decide +kernel
theorem dX2_copyFrom_19 : decode cX2_copyFrom 19 = .ok (.invokevirtual 41, 3) := by decide +kernel
theorem dX2_copyFrom_22 : decode cX2_copyFrom 22 = .ok (.aload_n 1, 1) := by decide +kernel
theorem dX2_copyFrom_23 : decode cX2_copyFrom 23 = .ok (.getfield 34, 3) := by decide +kernel
theorem dX2_copyFrom_26 : decode cX2_copyFrom 26 = .ok (.iconst 0, 1) := by decide +kernel
theorem dX2_copyFrom_27 : decode cX2_copyFrom 27 = .ok (.aload_n 0, 1) := by decide +kernel
theorem dX2_copyFrom_28 : decode cX2_copyFrom 28 = .ok (.getfield 34, 3) := by decide +kernel
theorem dX2_copyFrom_31 : decode cX2_copyFrom 31 = .ok (.iconst 0, 1) := by decide +kernel
theorem dX2_copyFrom_32 : decode cX2_copyFrom 32 = .ok (.aload_n 0, 1) := by decide +kernel
theorem dX2_copyFrom_33 : decode cX2_copyFrom 33 = .ok (.getfield 34, 3) := by decide +kernel
theorem dX2_copyFrom_36 : decode cX2_copyFrom 36 = .ok (.arraylength, 1) := by decide +kernel
theorem dX2_copyFrom_37 : decode cX2_copyFrom 37 = .ok (.invokestatic 44, 3) := by decide +kernel
theorem dX2_copyFrom_40 : decode cX2_copyFrom 40 = .ok (.aload_n 0, 1) := by decide +kernel
theorem dX2_copyFrom_41 : decode cX2_copyFrom 41 = .ok (.aload_n 1, 1) := by decide +kernel
theorem dX2_copyFrom_42 : decode cX2_copyFrom 42 = .ok (.getfield 50, 3) := by decide +kernel
theorem dX2_copyFrom_45 : decode cX2_copyFrom 45 = .ok (.putfield 50, 3) := by decide +kernel
theorem dX2_copyFrom_48 : decode cX2_copyFrom 48 = .ok (.aload_n 0, 1) := by decide +kernel
theorem dX2_copyFrom_49 : decode cX2_copyFrom 49 = .ok (.aload_n 1, 1) := by decide +kernel
theorem dX2_copyFrom_50 : decode cX2_copyFrom 50 = .ok (.getfield 54, 3) := by decide +kernel
theorem dX2_copyFrom_53 : decode cX2_copyFrom 53 = .ok (.putfield 54, 3) := by decide +kernel
theorem dX2_copyFrom_56 : decode cX2_copyFrom 56 = .ok (.aload_n 0, 1) := by decide +kernel
theorem dX2_copyFrom_57 : decode cX2_copyFrom 57 = .ok (.aload_n 1, 1) := by decide +kernel
theorem dX2_copyFrom_58 : decode cX2_copyFrom 58 = .ok (.getfield 57, 3) := by decide +kernel
theorem dX2_copyFrom_61 : decode cX2_copyFrom 61 = .ok (.putfield 57, 3) := by decide +kernel
theorem dX2_copyFrom_64 : decode cX2_copyFrom 64 = .ok (.aload_n 0, 1) := by decide +kernel
theorem dX2_copyFrom_65 : decode cX2_copyFrom 65 = .ok (.aload_n 1, 1) := by decide +kernel
theorem dX2_copyFrom_66 : decode cX2_copyFrom 66 = .ok (.getfield 60, 3) := by decide +kernel
theorem dX2_copyFrom_69 : decode cX2_copyFrom 69 = .ok (.putfield 60, 3) := by decide +kernel
theorem dX2_copyFrom_72 : decode cX2_copyFrom 72 = .ok (.return_, 1) := by decide +kernel
theorem dX2_hasStarted_0 : decode cX2_hasStarted 0 = .ok (.aload_n 0, 1) := by decide +kernel
theorem dX2_hasStarted_1 : decode cX2_hasStarted 1 = .ok (.getfield 21, 3) := by decide +kernel
theorem dX2_hasStarted_4 : decode cX2_hasStarted 4 = .ok (.getfield 63, 3) := by decide +kernel
theorem dX2_hasStarted_7 : decode cX2_hasStarted 7 = .ok (.iload_n 1, 1) := by decide +kernel
theorem dX2_hasStarted_8 : decode cX2_hasStarted 8 = .ok (.iaload, 1) := by decide +kernel
theorem dX2_hasStarted_9 : decode cX2_hasStarted 9 = .ok (.aload_n 0, 1) := by decide +kernel
theorem dX2_hasStarted_10 : decode cX2_hasStarted 10 = .ok (.getfield 50, 3) := by decide +kernel
theorem dX2_hasStarted_13 : decode cX2_hasStarted 13 = .ok (.if_icmp .gt 7, 3) := by decide +kernel
theorem dX2_hasStarted_16 : decode cX2_hasStarted 16 = .ok (.iconst 1, 1) := by decide +kernel
theorem dX2_hasStarted_17 : decode cX2_hasStarted 17 = .ok (.goto 4, 3) := by decide +kernel
theorem dX2_hasStarted_20 : decode cX2_hasStarted 20 = .ok (.iconst 0, 1) := by decide +kernel
theorem dX2_hasStarted_21 : decode cX2_hasStarted 21 = .ok (.ireturn, 1) := by decide +kernel
theorem dX2_isAhead_0 : decode cX2_isAhead 0 = .ok (.aload_n 0, 1) := by decide +kernel
theorem dX2_isAhead_1 : decode cX2_isAhead 1 = .ok (.getfield 21, 3) := by decide +kernel
theorem dX2_isAhead_4 : decode cX2_isAhead 4 = .ok (.iload_n 1, 1) := by decide +kernel
theorem dX2_isAhead_5 : decode cX2_isAhead 5 = .ok (.invokevirtual 66, 3) := by decide +kernel
theorem dX2_isAhead_8 : decode cX2_isAhead 8 = .ok (.ifCond .eq 15, 3) := by decide +kernel
theorem dX2_isAhead_11 : decode cX2_isAhead 11 = .ok (.aload_n 0, 1) := by decide +kernel
theorem dX2_isAhead_12 : decode cX2_isAhead 12 = .ok (.iload_n 1, 1) := by decide +kernel
theorem dX2_isAhead_13 : decode cX2_isAhead 13 = .ok (.invokevirtual 70, 3) := by decide +kernel
theorem dX2_isAhead_16 : decode cX2_isAhead 16 = .ok (.ifCond .ne 7, 3) := by decide +kernel
theorem dX2_isAhead_19 : decode cX2_isAhead 19 = .ok (.iconst 1, 1) := by decide +kernel
theorem dX2_isAhead_20 : decode cX2_isAhead 20 = .ok (.goto 4, 3) := by decide +kernel
theorem dX2_isAhead_23 : decode cX2_isAhead 23 = .ok (.iconst 0, 1) := by decide +kernel
theorem dX2_isAhead_24 : decode cX2_isAhead 24 = .ok (.ireturn, 1) := by decide +kernel
theorem dX2_isUnderWay_0 : decode cX2_isUnderWay 0 = .ok (.aload_n 0, 1) := by decide +kernel
theorem dX2_isUnderWay_1 : decode cX2_isUnderWay 1 = .ok (.getfield 21, 3) := by decide +kernel
theorem dX2_isUnderWay_4 : decode cX2_isUnderWay 4 = .ok (.iload_n 1, 1) := by decide +kernel
theorem dX2_isUnderWay_5 : decode cX2_isUnderWay 5 = .ok (.invokevirtual 66, 3) := by decide +kernel
theorem dX2_isUnderWay_8 : decode cX2_isUnderWay 8 = .ok (.ifCond .eq 15, 3) := by decide +kernel
theorem dX2_isUnderWay_11 : decode cX2_isUnderWay 11 = .ok (.aload_n 0, 1) := by decide +kernel
theorem dX2_isUnderWay_12 : decode cX2_isUnderWay 12 = .ok (.iload_n 1, 1) := by decide +kernel
theorem dX2_isUnderWay_13 : decode cX2_isUnderWay 13 = .ok (.invokevirtual 70, 3) := by decide +kernel
theorem dX2_isUnderWay_16 : decode cX2_isUnderWay 16 = .ok (.ifCond .eq 7, 3) := by decide +kernel
theorem dX2_isUnderWay_19 : decode cX2_isUnderWay 19 = .ok (.iconst 1, 1) := by decide +kernel
theorem dX2_isUnderWay_20 : decode cX2_isUnderWay 20 = .ok (.goto 4, 3) := by decide +kernel
theorem dX2_isUnderWay_23 : decode cX2_isUnderWay 23 = .ok (.iconst 0, 1) := by decide +kernel
theorem dX2_isUnderWay_24 : decode cX2_isUnderWay 24 = .ok (.ireturn, 1) := by decide +kernel
theorem dX2_reasonAgainst_0 : decode cX2_reasonAgainst 0 = .ok (.aload_n 0, 1) := by decide +kernel
theorem dX2_reasonAgainst_1 : decode cX2_reasonAgainst 1 = .ok (.getfield 21, 3) := by decide +kernel
theorem dX2_reasonAgainst_4 : decode cX2_reasonAgainst 4 = .ok (.iload_n 1, 1) := by decide +kernel
theorem dX2_reasonAgainst_5 : decode cX2_reasonAgainst 5 = .ok (.invokevirtual 66, 3) := by decide +kernel
theorem dX2_reasonAgainst_8 : decode cX2_reasonAgainst 8 = .ok (.ifCond .ne 5, 3) := by decide +kernel
theorem dX2_reasonAgainst_11 : decode cX2_reasonAgainst 11 = .ok (.iconst 1, 1) := by decide +kernel
theorem dX2_reasonAgainst_12 : decode cX2_reasonAgainst 12 = .ok (.ireturn, 1) := by decide +kernel
theorem dX2_reasonAgainst_13 : decode cX2_reasonAgainst 13 = .ok (.aload_n 0, 1) := by decide +kernel
theorem dX2_reasonAgainst_14 : decode cX2_reasonAgainst 14 = .ok (.iload_n 1, 1) := by decide +kernel
theorem dX2_reasonAgainst_15 : decode cX2_reasonAgainst 15 = .ok (.invokevirtual 70, 3) := by decide +kernel
theorem dX2_reasonAgainst_18 : decode cX2_reasonAgainst 18 = .ok (.ifCond .eq 5, 3) := by decide +kernel
theorem dX2_reasonAgainst_21 : decode cX2_reasonAgainst 21 = .ok (.iconst 2, 1) := by decide +kernel
theorem dX2_reasonAgainst_22 : decode cX2_reasonAgainst 22 = .ok (.ireturn, 1) := by decide +kernel
theorem dX2_reasonAgainst_23 : decode cX2_reasonAgainst 23 = .ok (.aload_n 0, 1) := by decide +kernel
theorem dX2_reasonAgainst_24 : decode cX2_reasonAgainst 24 = .ok (.getfield 12, 3) := by decide +kernel
theorem dX2_reasonAgainst_27 : decode cX2_reasonAgainst 27 = .ok (.aload_n 0, 1) := by decide +kernel
theorem dX2_reasonAgainst_28 : decode cX2_reasonAgainst 28 = .ok (.getfield 21, 3) := by decide +kernel
theorem dX2_reasonAgainst_31 : decode cX2_reasonAgainst 31 = .ok (.getfield 73, 3) := by decide +kernel
theorem dX2_reasonAgainst_34 : decode cX2_reasonAgainst 34 = .ok (.iload_n 1, 1) := by decide +kernel
theorem dX2_reasonAgainst_35 : decode cX2_reasonAgainst 35 = .ok (.iaload, 1) := by decide +kernel
theorem dX2_reasonAgainst_36 : decode cX2_reasonAgainst 36 = .ok (.iload_n 2, 1) := by decide +kernel
theorem dX2_reasonAgainst_37 : decode cX2_reasonAgainst 37 = .ok (.iload_n 3, 1) := by decide +kernel
theorem dX2_reasonAgainst_38 : decode cX2_reasonAgainst 38 = .ok (.iload 4, 2) := by decide +kernel
theorem dX2_reasonAgainst_40 : decode cX2_reasonAgainst 40 = .ok (.invokevirtual 76, 3) := by decide +kernel
theorem dX2_reasonAgainst_43 : decode cX2_reasonAgainst 43 = .ok (.ifCond .ne 5, 3) := by decide +kernel
theorem dX2_reasonAgainst_46 : decode cX2_reasonAgainst 46 = .ok (.iconst 3, 1) := by decide +kernel
theorem dX2_reasonAgainst_47 : decode cX2_reasonAgainst 47 = .ok (.ireturn, 1) := by decide +kernel
theorem dX2_reasonAgainst_48 : decode cX2_reasonAgainst 48 = .ok (.iload_n 2, 1) := by decide +kernel
theorem dX2_reasonAgainst_49 : decode cX2_reasonAgainst 49 = .ok (.iload_n 3, 1) := by decide +kernel
theorem dX2_reasonAgainst_50 : decode cX2_reasonAgainst 50 = .ok (.iload 4, 2) := by decide +kernel
theorem dX2_reasonAgainst_52 : decode cX2_reasonAgainst 52 = .ok (.invokestatic 80, 3) := by decide +kernel
theorem dX2_reasonAgainst_55 : decode cX2_reasonAgainst 55 = .ok (.istore 5, 2) := by decide +kernel
theorem dX2_reasonAgainst_57 : decode cX2_reasonAgainst 57 = .ok (.iload 5, 2) := by decide +kernel
theorem dX2_reasonAgainst_59 : decode cX2_reasonAgainst 59 = .ok (.aload_n 0, 1) := by decide +kernel
theorem dX2_reasonAgainst_60 : decode cX2_reasonAgainst 60 = .ok (.getfield 12, 3) := by decide +kernel
theorem dX2_reasonAgainst_63 : decode cX2_reasonAgainst 63 = .ok (.aload_n 0, 1) := by decide +kernel
theorem dX2_reasonAgainst_64 : decode cX2_reasonAgainst 64 = .ok (.getfield 21, 3) := by decide +kernel
theorem dX2_reasonAgainst_67 : decode cX2_reasonAgainst 67 = .ok (.getfield 84, 3) := by decide +kernel
theorem dX2_reasonAgainst_70 : decode cX2_reasonAgainst 70 = .ok (.iload_n 1, 1) := by decide +kernel
theorem dX2_reasonAgainst_71 : decode cX2_reasonAgainst 71 = .ok (.iaload, 1) := by decide +kernel
theorem dX2_reasonAgainst_72 : decode cX2_reasonAgainst 72 = .ok (.invokevirtual 87, 3) := by decide +kernel
theorem dX2_reasonAgainst_75 : decode cX2_reasonAgainst 75 = .ok (.iconst (-1), 1) := by decide +kernel
theorem dX2_reasonAgainst_76 : decode cX2_reasonAgainst 76 = .ok (.ixor, 1) := by decide +kernel
theorem dX2_reasonAgainst_77 : decode cX2_reasonAgainst 77 = .ok (.iand, 1) := by decide +kernel
theorem dX2_reasonAgainst_78 : decode cX2_reasonAgainst 78 = .ok (.ifCond .eq 5, 3) := by decide +kernel
theorem dX2_reasonAgainst_81 : decode cX2_reasonAgainst 81 = .ok (.iconst 4, 1) := by decide +kernel
theorem dX2_reasonAgainst_82 : decode cX2_reasonAgainst 82 = .ok (.ireturn, 1) := by decide +kernel
theorem dX2_reasonAgainst_83 : decode cX2_reasonAgainst 83 = .ok (.iload 5, 2) := by decide +kernel
theorem dX2_reasonAgainst_85 : decode cX2_reasonAgainst 85 = .ok (.aload_n 0, 1) := by decide +kernel
theorem dX2_reasonAgainst_86 : decode cX2_reasonAgainst 86 = .ok (.getfield 21, 3) := by decide +kernel
theorem dX2_reasonAgainst_89 : decode cX2_reasonAgainst 89 = .ok (.iload_n 1, 1) := by decide +kernel
theorem dX2_reasonAgainst_90 : decode cX2_reasonAgainst 90 = .ok (.invokevirtual 91, 3) := by decide +kernel
theorem dX2_reasonAgainst_93 : decode cX2_reasonAgainst 93 = .ok (.iand, 1) := by decide +kernel
theorem dX2_reasonAgainst_94 : decode cX2_reasonAgainst 94 = .ok (.ifCond .eq 7, 3) := by decide +kernel
theorem dX2_reasonAgainst_97 : decode cX2_reasonAgainst 97 = .ok (.iconst 5, 1) := by decide +kernel
theorem dX2_reasonAgainst_98 : decode cX2_reasonAgainst 98 = .ok (.goto 4, 3) := by decide +kernel
theorem dX2_reasonAgainst_101 : decode cX2_reasonAgainst 101 = .ok (.iconst 0, 1) := by decide +kernel
theorem dX2_reasonAgainst_102 : decode cX2_reasonAgainst 102 = .ok (.ireturn, 1) := by decide +kernel
theorem dX2_earns_0 : decode cX2_earns 0 = .ok (.iload_n 1, 1) := by decide +kernel
theorem dX2_earns_1 : decode cX2_earns 1 = .ok (.ifCond .lt 14, 3) := by decide +kernel
theorem dX2_earns_4 : decode cX2_earns 4 = .ok (.iload_n 1, 1) := by decide +kernel
theorem dX2_earns_5 : decode cX2_earns 5 = .ok (.aload_n 0, 1) := by decide +kernel
theorem dX2_earns_6 : decode cX2_earns 6 = .ok (.getfield 12, 3) := by decide +kernel
theorem dX2_earns_9 : decode cX2_earns 9 = .ok (.getfield 94, 3) := by decide +kernel
theorem dX2_earns_12 : decode cX2_earns 12 = .ok (.if_icmp .lt 5, 3) := by decide +kernel
theorem dX2_earns_15 : decode cX2_earns 15 = .ok (.iconst 0, 1) := by decide +kernel
theorem dX2_earns_16 : decode cX2_earns 16 = .ok (.ireturn, 1) := by decide +kernel
theorem dX2_earns_17 : decode cX2_earns 17 = .ok (.aload_n 0, 1) := by decide +kernel
theorem dX2_earns_18 : decode cX2_earns 18 = .ok (.getfield 12, 3) := by decide +kernel
theorem dX2_earns_21 : decode cX2_earns 21 = .ok (.getfield 97, 3) := by decide +kernel
theorem dX2_earns_24 : decode cX2_earns 24 = .ok (.iload_n 1, 1) := by decide +kernel
theorem dX2_earns_25 : decode cX2_earns 25 = .ok (.iaload, 1) := by decide +kernel
theorem dX2_earns_26 : decode cX2_earns 26 = .ok (.aload_n 0, 1) := by decide +kernel
theorem dX2_earns_27 : decode cX2_earns 27 = .ok (.getfield 21, 3) := by decide +kernel
theorem dX2_earns_30 : decode cX2_earns 30 = .ok (.getfield 100, 3) := by decide +kernel
theorem dX2_earns_33 : decode cX2_earns 33 = .ok (.iload_n 2, 1) := by decide +kernel
theorem dX2_earns_34 : decode cX2_earns 34 = .ok (.iaload, 1) := by decide +kernel
theorem dX2_earns_35 : decode cX2_earns 35 = .ok (.imul, 1) := by decide +kernel
theorem dX2_earns_36 : decode cX2_earns 36 = .ok (.bipush 9, 2) := by decide +kernel
theorem dX2_earns_38 : decode cX2_earns 38 = .ok (.iadd, 1) := by decide +kernel
theorem dX2_earns_39 : decode cX2_earns 39 = .ok (.bipush 10, 2) := by decide +kernel
theorem dX2_earns_41 : decode cX2_earns 41 = .ok (.idiv, 1) := by decide +kernel
theorem dX2_earns_42 : decode cX2_earns 42 = .ok (.istore 4, 2) := by decide +kernel
theorem dX2_earns_44 : decode cX2_earns 44 = .ok (.iload_n 3, 1) := by decide +kernel
theorem dX2_earns_45 : decode cX2_earns 45 = .ok (.ifCond .eq 22, 3) := by decide +kernel
theorem dX2_earns_48 : decode cX2_earns 48 = .ok (.iload 4, 2) := by decide +kernel
theorem dX2_earns_50 : decode cX2_earns 50 = .ok (.bipush 100, 2) := by decide +kernel
theorem dX2_earns_52 : decode cX2_earns 52 = .ok (.aload_n 0, 1) := by decide +kernel
theorem dX2_earns_53 : decode cX2_earns 53 = .ok (.getfield 34, 3) := by decide +kernel
theorem dX2_earns_56 : decode cX2_earns 56 = .ok (.bipush 6, 2) := by decide +kernel
theorem dX2_earns_58 : decode cX2_earns 58 = .ok (.iaload, 1) := by decide +kernel
theorem dX2_earns_59 : decode cX2_earns 59 = .ok (.iadd, 1) := by decide +kernel
theorem dX2_earns_60 : decode cX2_earns 60 = .ok (.imul, 1) := by decide +kernel
theorem dX2_earns_61 : decode cX2_earns 61 = .ok (.bipush 100, 2) := by decide +kernel
theorem dX2_earns_63 : decode cX2_earns 63 = .ok (.idiv, 1) := by decide +kernel
theorem dX2_earns_64 : decode cX2_earns 64 = .ok (.goto 5, 3) := by decide +kernel
theorem dX2_earns_67 : decode cX2_earns 67 = .ok (.iload 4, 2) := by decide +kernel
theorem dX2_earns_69 : decode cX2_earns 69 = .ok (.ireturn, 1) := by decide +kernel
theorem dX2_payOf_0 : decode cX2_payOf 0 = .ok (.aload_n 0, 1) := by decide +kernel
theorem dX2_payOf_1 : decode cX2_payOf 1 = .ok (.aload_n 0, 1) := by decide +kernel
theorem dX2_payOf_2 : decode cX2_payOf 2 = .ok (.getfield 21, 3) := by decide +kernel
theorem dX2_payOf_5 : decode cX2_payOf 5 = .ok (.iload_n 1, 1) := by decide +kernel
theorem dX2_payOf_6 : decode cX2_payOf 6 = .ok (.iload_n 2, 1) := by decide +kernel
theorem dX2_payOf_7 : decode cX2_payOf 7 = .ok (.invokevirtual 103, 3) := by decide +kernel
theorem dX2_payOf_10 : decode cX2_payOf 10 = .ok (.iload_n 1, 1) := by decide +kernel
theorem dX2_payOf_11 : decode cX2_payOf 11 = .ok (.aload_n 0, 1) := by decide +kernel
theorem dX2_payOf_12 : decode cX2_payOf 12 = .ok (.getfield 21, 3) := by decide +kernel
theorem dX2_payOf_15 : decode cX2_payOf 15 = .ok (.getfield 107, 3) := by decide +kernel
theorem dX2_payOf_18 : decode cX2_payOf 18 = .ok (.iload_n 1, 1) := by decide +kernel
theorem dX2_payOf_19 : decode cX2_payOf 19 = .ok (.iaload, 1) := by decide +kernel
theorem dX2_payOf_20 : decode cX2_payOf 20 = .ok (.iconst 1, 1) := by decide +kernel
theorem dX2_payOf_21 : decode cX2_payOf 21 = .ok (.if_icmp .le 7, 3) := by decide +kernel
theorem dX2_payOf_24 : decode cX2_payOf 24 = .ok (.iconst 1, 1) := by decide +kernel
theorem dX2_payOf_25 : decode cX2_payOf 25 = .ok (.goto 4, 3) := by decide +kernel
theorem dX2_payOf_28 : decode cX2_payOf 28 = .ok (.iconst 0, 1) := by decide +kernel
theorem dX2_payOf_29 : decode cX2_payOf 29 = .ok (.invokevirtual 110, 3) := by decide +kernel
theorem dX2_payOf_32 : decode cX2_payOf 32 = .ok (.iload_n 3, 1) := by decide +kernel
theorem dX2_payOf_33 : decode cX2_payOf 33 = .ok (.imul, 1) := by decide +kernel
theorem dX2_payOf_34 : decode cX2_payOf 34 = .ok (.iconst 2, 1) := by decide +kernel
theorem dX2_payOf_35 : decode cX2_payOf 35 = .ok (.idiv, 1) := by decide +kernel
theorem dX2_payOf_36 : decode cX2_payOf 36 = .ok (.ireturn, 1) := by decide +kernel
theorem dX2_chainPay_0 : decode cX2_chainPay 0 = .ok (.iconst 0, 1) := by decide +kernel
theorem dX2_chainPay_1 : decode cX2_chainPay 1 = .ok (.istore_n 3, 1) := by decide +kernel
theorem dX2_chainPay_2 : decode cX2_chainPay 2 = .ok (.iconst 0, 1) := by decide +kernel
theorem dX2_chainPay_3 : decode cX2_chainPay 3 = .ok (.istore 4, 2) := by decide +kernel
theorem dX2_chainPay_5 : decode cX2_chainPay 5 = .ok (.iload 4, 2) := by decide +kernel
theorem dX2_chainPay_7 : decode cX2_chainPay 7 = .ok (.aload_n 0, 1) := by decide +kernel
theorem dX2_chainPay_8 : decode cX2_chainPay 8 = .ok (.getfield 21, 3) := by decide +kernel
theorem dX2_chainPay_11 : decode cX2_chainPay 11 = .ok (.getfield 107, 3) := by decide +kernel
theorem dX2_chainPay_14 : decode cX2_chainPay 14 = .ok (.iload_n 1, 1) := by decide +kernel
theorem dX2_chainPay_15 : decode cX2_chainPay 15 = .ok (.iaload, 1) := by decide +kernel
theorem dX2_chainPay_16 : decode cX2_chainPay 16 = .ok (.if_icmp .ge 20, 3) := by decide +kernel
theorem dX2_chainPay_19 : decode cX2_chainPay 19 = .ok (.iload_n 3, 1) := by decide +kernel
theorem dX2_chainPay_20 : decode cX2_chainPay 20 = .ok (.aload_n 0, 1) := by decide +kernel
theorem dX2_chainPay_21 : decode cX2_chainPay 21 = .ok (.iload_n 1, 1) := by decide +kernel
theorem dX2_chainPay_22 : decode cX2_chainPay 22 = .ok (.iload 4, 2) := by decide +kernel
theorem dX2_chainPay_24 : decode cX2_chainPay 24 = .ok (.iload_n 2, 1) := by decide +kernel
theorem dX2_chainPay_25 : decode cX2_chainPay 25 = .ok (.invokevirtual 114, 3) := by decide +kernel
theorem dX2_chainPay_28 : decode cX2_chainPay 28 = .ok (.iadd, 1) := by decide +kernel
theorem dX2_chainPay_29 : decode cX2_chainPay 29 = .ok (.istore_n 3, 1) := by decide +kernel
theorem dX2_chainPay_30 : decode cX2_chainPay 30 = .ok (.iinc 4 1, 3) := by decide +kernel
theorem dX2_chainPay_33 : decode cX2_chainPay 33 = .ok (.goto (-28), 3) := by decide +kernel
theorem dX2_chainPay_36 : decode cX2_chainPay 36 = .ok (.iload_n 3, 1) := by decide +kernel
theorem dX2_chainPay_37 : decode cX2_chainPay 37 = .ok (.ireturn, 1) := by decide +kernel
theorem dX2_payByNotice_0 : decode cX2_payByNotice 0 = .ok (.iload_n 1, 1) := by decide +kernel
theorem dX2_payByNotice_1 : decode cX2_payByNotice 1 = .ok (.aload_n 0, 1) := by decide +kernel
theorem dX2_payByNotice_2 : decode cX2_payByNotice 2 = .ok (.getfield 34, 3) := by decide +kernel
theorem dX2_payByNotice_5 : decode cX2_payByNotice 5 = .ok (.iconst 4, 1) := by decide +kernel
theorem dX2_payByNotice_6 : decode cX2_payByNotice 6 = .ok (.iaload, 1) := by decide +kernel
theorem dX2_payByNotice_7 : decode cX2_payByNotice 7 = .ok (.if_icmp .ge 5, 3) := by decide +kernel
theorem dX2_payByNotice_10 : decode cX2_payByNotice 10 = .ok (.iconst 2, 1) := by decide +kernel
theorem dX2_payByNotice_11 : decode cX2_payByNotice 11 = .ok (.ireturn, 1) := by decide +kernel
theorem dX2_payByNotice_12 : decode cX2_payByNotice 12 = .ok (.iload_n 1, 1) := by decide +kernel
theorem dX2_payByNotice_13 : decode cX2_payByNotice 13 = .ok (.aload_n 0, 1) := by decide +kernel
theorem dX2_payByNotice_14 : decode cX2_payByNotice 14 = .ok (.getfield 34, 3) := by decide +kernel
theorem dX2_payByNotice_17 : decode cX2_payByNotice 17 = .ok (.iconst 5, 1) := by decide +kernel
theorem dX2_payByNotice_18 : decode cX2_payByNotice 18 = .ok (.iaload, 1) := by decide +kernel
theorem dX2_payByNotice_19 : decode cX2_payByNotice 19 = .ok (.if_icmp .ge 7, 3) := by decide +kernel
theorem dX2_payByNotice_22 : decode cX2_payByNotice 22 = .ok (.iconst 1, 1) := by decide +kernel
theorem dX2_payByNotice_23 : decode cX2_payByNotice 23 = .ok (.goto 4, 3) := by decide +kernel
theorem dX2_payByNotice_26 : decode cX2_payByNotice 26 = .ok (.iconst 0, 1) := by decide +kernel
theorem dX2_payByNotice_27 : decode cX2_payByNotice 27 = .ok (.ireturn, 1) := by decide +kernel
theorem dX2_payIfVacated_0 : decode cX2_payIfVacated 0 = .ok (.aload_n 0, 1) := by decide +kernel
theorem dX2_payIfVacated_1 : decode cX2_payIfVacated 1 = .ok (.getfield 21, 3) := by decide +kernel
theorem dX2_payIfVacated_4 : decode cX2_payIfVacated 4 = .ok (.getfield 63, 3) := by decide +kernel
theorem dX2_payIfVacated_7 : decode cX2_payIfVacated 7 = .ok (.iload_n 1, 1) := by decide +kernel
theorem dX2_payIfVacated_8 : decode cX2_payIfVacated 8 = .ok (.iaload, 1) := by decide +kernel
theorem dX2_payIfVacated_9 : decode cX2_payIfVacated 9 = .ok (.aload_n 0, 1) := by decide +kernel
theorem dX2_payIfVacated_10 : decode cX2_payIfVacated 10 = .ok (.getfield 50, 3) := by decide +kernel
theorem dX2_payIfVacated_13 : decode cX2_payIfVacated 13 = .ok (.isub, 1) := by decide +kernel
theorem dX2_payIfVacated_14 : decode cX2_payIfVacated 14 = .ok (.iload_n 2, 1) := by decide +kernel
theorem dX2_payIfVacated_15 : decode cX2_payIfVacated 15 = .ok (.isub, 1) := by decide +kernel
theorem dX2_payIfVacated_16 : decode cX2_payIfVacated 16 = .ok (.istore_n 3, 1) := by decide +kernel
theorem dX2_payIfVacated_17 : decode cX2_payIfVacated 17 = .ok (.aload_n 0, 1) := by decide +kernel
theorem dX2_payIfVacated_18 : decode cX2_payIfVacated 18 = .ok (.getfield 21, 3) := by decide +kernel
theorem dX2_payIfVacated_21 : decode cX2_payIfVacated 21 = .ok (.iload_n 1, 1) := by decide +kernel
theorem dX2_payIfVacated_22 : decode cX2_payIfVacated 22 = .ok (.invokevirtual 66, 3) := by decide +kernel
theorem dX2_payIfVacated_25 : decode cX2_payIfVacated 25 = .ok (.ifCond .eq 7, 3) := by decide +kernel
theorem dX2_payIfVacated_28 : decode cX2_payIfVacated 28 = .ok (.iload_n 3, 1) := by decide +kernel
theorem dX2_payIfVacated_29 : decode cX2_payIfVacated 29 = .ok (.ifCond .gt 5, 3) := by decide +kernel
theorem dX2_payIfVacated_32 : decode cX2_payIfVacated 32 = .ok (.iconst (-1), 1) := by decide +kernel
theorem dX2_payIfVacated_33 : decode cX2_payIfVacated 33 = .ok (.ireturn, 1) := by decide +kernel
theorem dX2_payIfVacated_34 : decode cX2_payIfVacated 34 = .ok (.aload_n 0, 1) := by decide +kernel
theorem dX2_payIfVacated_35 : decode cX2_payIfVacated 35 = .ok (.iload_n 1, 1) := by decide +kernel
theorem dX2_payIfVacated_36 : decode cX2_payIfVacated 36 = .ok (.aload_n 0, 1) := by decide +kernel
theorem dX2_payIfVacated_37 : decode cX2_payIfVacated 37 = .ok (.iload_n 3, 1) := by decide +kernel
theorem dX2_payIfVacated_38 : decode cX2_payIfVacated 38 = .ok (.invokevirtual 117, 3) := by decide +kernel
theorem dX2_payIfVacated_41 : decode cX2_payIfVacated 41 = .ok (.invokevirtual 120, 3) := by decide +kernel
theorem dX2_payIfVacated_44 : decode cX2_payIfVacated 44 = .ok (.ireturn, 1) := by decide +kernel
theorem dX2_close_0 : decode cX2_close 0 = .ok (.iconst 0, 1) := by decide +kernel
theorem dX2_close_1 : decode cX2_close 1 = .ok (.istore 4, 2) := by decide +kernel
theorem dX2_close_3 : decode cX2_close 3 = .ok (.iconst 0, 1) := by decide +kernel
theorem dX2_close_4 : decode cX2_close 4 = .ok (.istore 5, 2) := by decide +kernel
theorem dX2_close_6 : decode cX2_close 6 = .ok (.iload 5, 2) := by decide +kernel
theorem dX2_close_8 : decode cX2_close 8 = .ok (.aload_n 0, 1) := by decide +kernel
theorem dX2_close_9 : decode cX2_close 9 = .ok (.getfield 21, 3) := by decide +kernel
theorem dX2_close_12 : decode cX2_close 12 = .ok (.getfield 107, 3) := by decide +kernel
theorem dX2_close_15 : decode cX2_close 15 = .ok (.iload_n 1, 1) := by decide +kernel
theorem dX2_close_16 : decode cX2_close 16 = .ok (.iaload, 1) := by decide +kernel
theorem dX2_close_17 : decode cX2_close 17 = .ok (.if_icmp .ge 45, 3) := by decide +kernel
theorem dX2_close_20 : decode cX2_close 20 = .ok (.aload_n 0, 1) := by decide +kernel
theorem dX2_close_21 : decode cX2_close 21 = .ok (.iload_n 1, 1) := by decide +kernel
theorem dX2_close_22 : decode cX2_close 22 = .ok (.iload 5, 2) := by decide +kernel
theorem dX2_close_24 : decode cX2_close 24 = .ok (.iload_n 3, 1) := by decide +kernel
theorem dX2_close_25 : decode cX2_close 25 = .ok (.invokevirtual 114, 3) := by decide +kernel
theorem dX2_close_28 : decode cX2_close 28 = .ok (.istore 6, 2) := by decide +kernel
theorem dX2_close_30 : decode cX2_close 30 = .ok (.aload_n 0, 1) := by decide +kernel
theorem dX2_close_31 : decode cX2_close 31 = .ok (.getfield 12, 3) := by decide +kernel
theorem dX2_close_34 : decode cX2_close 34 = .ok (.aload_n 0, 1) := by decide +kernel
theorem dX2_close_35 : decode cX2_close 35 = .ok (.getfield 21, 3) := by decide +kernel
theorem dX2_close_38 : decode cX2_close 38 = .ok (.iload_n 1, 1) := by decide +kernel
theorem dX2_close_39 : decode cX2_close 39 = .ok (.iload 5, 2) := by decide +kernel
theorem dX2_close_41 : decode cX2_close 41 = .ok (.invokevirtual 103, 3) := by decide +kernel
theorem dX2_close_44 : decode cX2_close 44 = .ok (.iload 6, 2) := by decide +kernel
theorem dX2_close_46 : decode cX2_close 46 = .ok (.invokevirtual 123, 3) := by decide +kernel
theorem dX2_close_49 : decode cX2_close 49 = .ok (.iload 4, 2) := by decide +kernel
theorem dX2_close_51 : decode cX2_close 51 = .ok (.iload 6, 2) := by decide +kernel
theorem dX2_close_53 : decode cX2_close 53 = .ok (.iadd, 1) := by decide +kernel
theorem dX2_close_54 : decode cX2_close 54 = .ok (.istore 4, 2) := by decide +kernel
theorem dX2_close_56 : decode cX2_close 56 = .ok (.iinc 5 1, 3) := by decide +kernel
theorem dX2_close_59 : decode cX2_close 59 = .ok (.goto (-53), 3) := by decide +kernel
theorem dX2_close_62 : decode cX2_close 62 = .ok (.aload_n 0, 1) := by decide +kernel
theorem dX2_close_63 : decode cX2_close 63 = .ok (.getfield 21, 3) := by decide +kernel
theorem dX2_close_66 : decode cX2_close 66 = .ok (.getfield 127, 3) := by decide +kernel
theorem dX2_close_69 : decode cX2_close 69 = .ok (.iload_n 1, 1) := by decide +kernel
theorem dX2_close_70 : decode cX2_close 70 = .ok (.iload_n 2, 1) := by decide +kernel
theorem dX2_close_71 : decode cX2_close 71 = .ok (.iastore, 1) := by decide +kernel
theorem dX2_close_72 : decode cX2_close 72 = .ok (.aload_n 0, 1) := by decide +kernel
theorem dX2_close_73 : decode cX2_close 73 = .ok (.getfield 21, 3) := by decide +kernel
theorem dX2_close_76 : decode cX2_close 76 = .ok (.getfield 130, 3) := by decide +kernel
theorem dX2_close_79 : decode cX2_close 79 = .ok (.iload_n 1, 1) := by decide +kernel
theorem dX2_close_80 : decode cX2_close 80 = .ok (.dup2, 1) := by decide +kernel
theorem dX2_close_81 : decode cX2_close 81 = .ok (.iaload, 1) := by decide +kernel
theorem dX2_close_82 : decode cX2_close 82 = .ok (.iload 4, 2) := by decide +kernel
theorem dX2_close_84 : decode cX2_close 84 = .ok (.iadd, 1) := by decide +kernel
theorem dX2_close_85 : decode cX2_close 85 = .ok (.iastore, 1) := by decide +kernel
theorem dX2_close_86 : decode cX2_close 86 = .ok (.aload_n 0, 1) := by decide +kernel
theorem dX2_close_87 : decode cX2_close 87 = .ok (.dup, 1) := by decide +kernel
theorem dX2_close_88 : decode cX2_close 88 = .ok (.getfield 54, 3) := by decide +kernel
theorem dX2_close_91 : decode cX2_close 91 = .ok (.iload 4, 2) := by decide +kernel
theorem dX2_close_93 : decode cX2_close 93 = .ok (.iadd, 1) := by decide +kernel
theorem dX2_close_94 : decode cX2_close 94 = .ok (.putfield 54, 3) := by decide +kernel
theorem dX2_close_97 : decode cX2_close 97 = .ok (.iload_n 2, 1) := by decide +kernel
theorem dX2_close_98 : decode cX2_close 98 = .ok (.iconst 3, 1) := by decide +kernel
theorem dX2_close_99 : decode cX2_close 99 = .ok (.if_icmp .ne 17, 3) := by decide +kernel
theorem dX2_close_102 : decode cX2_close 102 = .ok (.aload_n 0, 1) := by decide +kernel
theorem dX2_close_103 : decode cX2_close 103 = .ok (.dup, 1) := by decide +kernel
theorem dX2_close_104 : decode cX2_close 104 = .ok (.getfield 57, 3) := by decide +kernel
theorem dX2_close_107 : decode cX2_close 107 = .ok (.iload 4, 2) := by decide +kernel
theorem dX2_close_109 : decode cX2_close 109 = .ok (.iadd, 1) := by decide +kernel
theorem dX2_close_110 : decode cX2_close 110 = .ok (.putfield 57, 3) := by decide +kernel
theorem dX2_close_113 : decode cX2_close 113 = .ok (.goto 19, 3) := by decide +kernel
theorem dX2_close_116 : decode cX2_close 116 = .ok (.iload_n 2, 1) := by decide +kernel
theorem dX2_close_117 : decode cX2_close 117 = .ok (.iconst 2, 1) := by decide +kernel
theorem dX2_close_118 : decode cX2_close 118 = .ok (.if_icmp .ne 14, 3) := by decide +kernel
theorem dX2_close_121 : decode cX2_close 121 = .ok (.aload_n 0, 1) := by decide +kernel
theorem dX2_close_122 : decode cX2_close 122 = .ok (.dup, 1) := by decide +kernel
theorem dX2_close_123 : decode cX2_close 123 = .ok (.getfield 60, 3) := by decide +kernel
theorem dX2_close_126 : decode cX2_close 126 = .ok (.iload 4, 2) := by decide +kernel
theorem dX2_close_128 : decode cX2_close 128 = .ok (.iadd, 1) := by decide +kernel
theorem dX2_close_129 : decode cX2_close 129 = .ok (.putfield 60, 3) := by decide +kernel
theorem dX2_close_132 : decode cX2_close 132 = .ok (.iload 4, 2) := by decide +kernel
theorem dX2_close_134 : decode cX2_close 134 = .ok (.ireturn, 1) := by decide +kernel
theorem dX2_passMinute_0 : decode cX2_passMinute 0 = .ok (.aload_n 0, 1) := by decide +kernel
theorem dX2_passMinute_1 : decode cX2_passMinute 1 = .ok (.invokevirtual 132, 3) := by decide +kernel
theorem dX2_passMinute_4 : decode cX2_passMinute 4 = .ok (.aload_n 0, 1) := by decide +kernel
theorem dX2_passMinute_5 : decode cX2_passMinute 5 = .ok (.dup, 1) := by decide +kernel
theorem dX2_passMinute_6 : decode cX2_passMinute 6 = .ok (.getfield 50, 3) := by decide +kernel
theorem dX2_passMinute_9 : decode cX2_passMinute 9 = .ok (.iconst 1, 1) := by decide +kernel
theorem dX2_passMinute_10 : decode cX2_passMinute 10 = .ok (.iadd, 1) := by decide +kernel
theorem dX2_passMinute_11 : decode cX2_passMinute 11 = .ok (.putfield 50, 3) := by decide +kernel
theorem dX2_passMinute_14 : decode cX2_passMinute 14 = .ok (.iconst 0, 1) := by decide +kernel
theorem dX2_passMinute_15 : decode cX2_passMinute 15 = .ok (.istore_n 1, 1) := by decide +kernel
theorem dX2_passMinute_16 : decode cX2_passMinute 16 = .ok (.iconst 0, 1) := by decide +kernel
theorem dX2_passMinute_17 : decode cX2_passMinute 17 = .ok (.istore_n 2, 1) := by decide +kernel
theorem dX2_passMinute_18 : decode cX2_passMinute 18 = .ok (.iload_n 2, 1) := by decide +kernel
theorem dX2_passMinute_19 : decode cX2_passMinute 19 = .ok (.aload_n 0, 1) := by decide +kernel
theorem dX2_passMinute_20 : decode cX2_passMinute 20 = .ok (.getfield 21, 3) := by decide +kernel
theorem dX2_passMinute_23 : decode cX2_passMinute 23 = .ok (.getfield 135, 3) := by decide +kernel
theorem dX2_passMinute_26 : decode cX2_passMinute 26 = .ok (.if_icmp .ge 81, 3) := by decide +kernel
theorem dX2_passMinute_29 : decode cX2_passMinute 29 = .ok (.aload_n 0, 1) := by decide +kernel
theorem dX2_passMinute_30 : decode cX2_passMinute 30 = .ok (.getfield 21, 3) := by decide +kernel
theorem dX2_passMinute_33 : decode cX2_passMinute 33 = .ok (.iload_n 2, 1) := by decide +kernel
theorem dX2_passMinute_34 : decode cX2_passMinute 34 = .ok (.invokevirtual 66, 3) := by decide +kernel
theorem dX2_passMinute_37 : decode cX2_passMinute 37 = .ok (.ifCond .eq 64, 3) := by decide +kernel
theorem dX2_passMinute_40 : decode cX2_passMinute 40 = .ok (.aload_n 0, 1) := by decide +kernel
theorem dX2_passMinute_41 : decode cX2_passMinute 41 = .ok (.getfield 21, 3) := by decide +kernel
theorem dX2_passMinute_44 : decode cX2_passMinute 44 = .ok (.iload_n 2, 1) := by decide +kernel
theorem dX2_passMinute_45 : decode cX2_passMinute 45 = .ok (.invokevirtual 136, 3) := by decide +kernel
theorem dX2_passMinute_48 : decode cX2_passMinute 48 = .ok (.aload_n 0, 1) := by decide +kernel
theorem dX2_passMinute_49 : decode cX2_passMinute 49 = .ok (.getfield 50, 3) := by decide +kernel
theorem dX2_passMinute_52 : decode cX2_passMinute 52 = .ok (.if_icmp .ne 49, 3) := by decide +kernel
theorem dX2_passMinute_55 : decode cX2_passMinute 55 = .ok (.aload_n 0, 1) := by decide +kernel
theorem dX2_passMinute_56 : decode cX2_passMinute 56 = .ok (.getfield 21, 3) := by decide +kernel
theorem dX2_passMinute_59 : decode cX2_passMinute 59 = .ok (.getfield 107, 3) := by decide +kernel
theorem dX2_passMinute_62 : decode cX2_passMinute 62 = .ok (.iload_n 2, 1) := by decide +kernel
theorem dX2_passMinute_63 : decode cX2_passMinute 63 = .ok (.iaload, 1) := by decide +kernel
theorem dX2_passMinute_64 : decode cX2_passMinute 64 = .ok (.ifCond .le 7, 3) := by decide +kernel
theorem dX2_passMinute_67 : decode cX2_passMinute 67 = .ok (.iconst 1, 1) := by decide +kernel
theorem dX2_passMinute_68 : decode cX2_passMinute 68 = .ok (.goto 4, 3) := by decide +kernel
theorem dX2_passMinute_71 : decode cX2_passMinute 71 = .ok (.iconst 0, 1) := by decide +kernel
theorem dX2_passMinute_72 : decode cX2_passMinute 72 = .ok (.istore_n 3, 1) := by decide +kernel
theorem dX2_passMinute_73 : decode cX2_passMinute 73 = .ok (.aload_n 0, 1) := by decide +kernel
theorem dX2_passMinute_74 : decode cX2_passMinute 74 = .ok (.iload_n 2, 1) := by decide +kernel
theorem dX2_passMinute_75 : decode cX2_passMinute 75 = .ok (.iload_n 3, 1) := by decide +kernel
theorem dX2_passMinute_76 : decode cX2_passMinute 76 = .ok (.ifCond .eq 7, 3) := by decide +kernel
theorem dX2_passMinute_79 : decode cX2_passMinute 79 = .ok (.iconst 1, 1) := by decide +kernel
theorem dX2_passMinute_80 : decode cX2_passMinute 80 = .ok (.goto 4, 3) := by decide +kernel
theorem dX2_passMinute_83 : decode cX2_passMinute 83 = .ok (.iconst 2, 1) := by decide +kernel
theorem dX2_passMinute_84 : decode cX2_passMinute 84 = .ok (.iconst 2, 1) := by decide +kernel
theorem dX2_passMinute_85 : decode cX2_passMinute 85 = .ok (.invokevirtual 139, 3) := by decide +kernel
theorem dX2_passMinute_88 : decode cX2_passMinute 88 = .ok (.pop, 1) := by decide +kernel
theorem dX2_passMinute_89 : decode cX2_passMinute 89 = .ok (.iload_n 1, 1) := by decide +kernel
theorem dX2_passMinute_90 : decode cX2_passMinute 90 = .ok (.iload_n 3, 1) := by decide +kernel
theorem dX2_passMinute_91 : decode cX2_passMinute 91 = .ok (.ifCond .eq 7, 3) := by decide +kernel
theorem dX2_passMinute_94 : decode cX2_passMinute 94 = .ok (.iconst 1, 1) := by decide +kernel
theorem dX2_passMinute_95 : decode cX2_passMinute 95 = .ok (.goto 4, 3) := by decide +kernel
theorem dX2_passMinute_98 : decode cX2_passMinute 98 = .ok (.iconst 0, 1) := by decide +kernel
theorem dX2_passMinute_99 : decode cX2_passMinute 99 = .ok (.iadd, 1) := by decide +kernel
theorem dX2_passMinute_100 : decode cX2_passMinute 100 = .ok (.istore_n 1, 1) := by decide +kernel
theorem dX2_passMinute_101 : decode cX2_passMinute 101 = .ok (.iinc 2 1, 3) := by decide +kernel
theorem dX2_passMinute_104 : decode cX2_passMinute 104 = .ok (.goto (-86), 3) := by decide +kernel
theorem dX2_passMinute_107 : decode cX2_passMinute 107 = .ok (.aload_n 0, 1) := by decide +kernel
theorem dX2_passMinute_108 : decode cX2_passMinute 108 = .ok (.invokevirtual 142, 3) := by decide +kernel
theorem dX2_passMinute_111 : decode cX2_passMinute 111 = .ok (.iload_n 1, 1) := by decide +kernel
theorem dX2_passMinute_112 : decode cX2_passMinute 112 = .ok (.ireturn, 1) := by decide +kernel
theorem dX2_tireAndRest_0 : decode cX2_tireAndRest 0 = .ok (.iconst 0, 1) := by decide +kernel
theorem dX2_tireAndRest_1 : decode cX2_tireAndRest 1 = .ok (.istore_n 1, 1) := by decide +kernel
theorem dX2_tireAndRest_2 : decode cX2_tireAndRest 2 = .ok (.iconst 0, 1) := by decide +kernel
theorem dX2_tireAndRest_3 : decode cX2_tireAndRest 3 = .ok (.istore_n 2, 1) := by decide +kernel
theorem dX2_tireAndRest_4 : decode cX2_tireAndRest 4 = .ok (.iconst 0, 1) := by decide +kernel
theorem dX2_tireAndRest_5 : decode cX2_tireAndRest 5 = .ok (.istore_n 3, 1) := by decide +kernel
theorem dX2_tireAndRest_6 : decode cX2_tireAndRest 6 = .ok (.iload_n 3, 1) := by decide +kernel
theorem dX2_tireAndRest_7 : decode cX2_tireAndRest 7 = .ok (.aload_n 0, 1) := by decide +kernel
theorem dX2_tireAndRest_8 : decode cX2_tireAndRest 8 = .ok (.getfield 21, 3) := by decide +kernel
theorem dX2_tireAndRest_11 : decode cX2_tireAndRest 11 = .ok (.getfield 135, 3) := by decide +kernel
theorem dX2_tireAndRest_14 : decode cX2_tireAndRest 14 = .ok (.if_icmp .ge 57, 3) := by decide +kernel
theorem dX2_tireAndRest_17 : decode cX2_tireAndRest 17 = .ok (.aload_n 0, 1) := by decide +kernel
theorem dX2_tireAndRest_18 : decode cX2_tireAndRest 18 = .ok (.iload_n 3, 1) := by decide +kernel
theorem dX2_tireAndRest_19 : decode cX2_tireAndRest 19 = .ok (.invokevirtual 145, 3) := by decide +kernel
theorem dX2_tireAndRest_22 : decode cX2_tireAndRest 22 = .ok (.ifCond .eq 43, 3) := by decide +kernel
theorem dX2_tireAndRest_25 : decode cX2_tireAndRest 25 = .ok (.aload_n 0, 1) := by decide +kernel
theorem dX2_tireAndRest_26 : decode cX2_tireAndRest 26 = .ok (.getfield 21, 3) := by decide +kernel
theorem dX2_tireAndRest_29 : decode cX2_tireAndRest 29 = .ok (.getfield 107, 3) := by decide +kernel
theorem dX2_tireAndRest_32 : decode cX2_tireAndRest 32 = .ok (.iload_n 3, 1) := by decide +kernel
theorem dX2_tireAndRest_33 : decode cX2_tireAndRest 33 = .ok (.iaload, 1) := by decide +kernel
theorem dX2_tireAndRest_34 : decode cX2_tireAndRest 34 = .ok (.iconst 1, 1) := by decide +kernel
theorem dX2_tireAndRest_35 : decode cX2_tireAndRest 35 = .ok (.if_icmp .le 18, 3) := by decide +kernel
theorem dX2_tireAndRest_38 : decode cX2_tireAndRest 38 = .ok (.iload_n 2, 1) := by decide +kernel
theorem dX2_tireAndRest_39 : decode cX2_tireAndRest 39 = .ok (.aload_n 0, 1) := by decide +kernel
theorem dX2_tireAndRest_40 : decode cX2_tireAndRest 40 = .ok (.getfield 21, 3) := by decide +kernel
theorem dX2_tireAndRest_43 : decode cX2_tireAndRest 43 = .ok (.getfield 148, 3) := by decide +kernel
theorem dX2_tireAndRest_46 : decode cX2_tireAndRest 46 = .ok (.iload_n 3, 1) := by decide +kernel
theorem dX2_tireAndRest_47 : decode cX2_tireAndRest 47 = .ok (.iaload, 1) := by decide +kernel
theorem dX2_tireAndRest_48 : decode cX2_tireAndRest 48 = .ok (.ior, 1) := by decide +kernel
theorem dX2_tireAndRest_49 : decode cX2_tireAndRest 49 = .ok (.istore_n 2, 1) := by decide +kernel
theorem dX2_tireAndRest_50 : decode cX2_tireAndRest 50 = .ok (.goto 15, 3) := by decide +kernel
theorem dX2_tireAndRest_53 : decode cX2_tireAndRest 53 = .ok (.iload_n 1, 1) := by decide +kernel
theorem dX2_tireAndRest_54 : decode cX2_tireAndRest 54 = .ok (.aload_n 0, 1) := by decide +kernel
theorem dX2_tireAndRest_55 : decode cX2_tireAndRest 55 = .ok (.getfield 21, 3) := by decide +kernel
theorem dX2_tireAndRest_58 : decode cX2_tireAndRest 58 = .ok (.getfield 148, 3) := by decide +kernel
theorem dX2_tireAndRest_61 : decode cX2_tireAndRest 61 = .ok (.iload_n 3, 1) := by decide +kernel
theorem dX2_tireAndRest_62 : decode cX2_tireAndRest 62 = .ok (.iaload, 1) := by decide +kernel
theorem dX2_tireAndRest_63 : decode cX2_tireAndRest 63 = .ok (.ior, 1) := by decide +kernel
theorem dX2_tireAndRest_64 : decode cX2_tireAndRest 64 = .ok (.istore_n 1, 1) := by decide +kernel
theorem dX2_tireAndRest_65 : decode cX2_tireAndRest 65 = .ok (.iinc 3 1, 3) := by decide +kernel
theorem dX2_tireAndRest_68 : decode cX2_tireAndRest 68 = .ok (.goto (-62), 3) := by decide +kernel
theorem dX2_tireAndRest_71 : decode cX2_tireAndRest 71 = .ok (.iconst 0, 1) := by decide +kernel
theorem dX2_tireAndRest_72 : decode cX2_tireAndRest 72 = .ok (.istore_n 3, 1) := by decide +kernel
theorem dX2_tireAndRest_73 : decode cX2_tireAndRest 73 = .ok (.iload_n 3, 1) := by decide +kernel
theorem dX2_tireAndRest_74 : decode cX2_tireAndRest 74 = .ok (.aload_n 0, 1) := by decide +kernel
theorem dX2_tireAndRest_75 : decode cX2_tireAndRest 75 = .ok (.getfield 12, 3) := by decide +kernel
theorem dX2_tireAndRest_78 : decode cX2_tireAndRest 78 = .ok (.getfield 94, 3) := by decide +kernel
theorem dX2_tireAndRest_81 : decode cX2_tireAndRest 81 = .ok (.if_icmp .ge 82, 3) := by decide +kernel
theorem dX2_tireAndRest_84 : decode cX2_tireAndRest 84 = .ok (.iload_n 2, 1) := by decide +kernel
theorem dX2_tireAndRest_85 : decode cX2_tireAndRest 85 = .ok (.iload_n 3, 1) := by decide +kernel
theorem dX2_tireAndRest_86 : decode cX2_tireAndRest 86 = .ok (.invokestatic 151, 3) := by decide +kernel
theorem dX2_tireAndRest_89 : decode cX2_tireAndRest 89 = .ok (.iand, 1) := by decide +kernel
theorem dX2_tireAndRest_90 : decode cX2_tireAndRest 90 = .ok (.ifCond .eq 27, 3) := by decide +kernel
theorem dX2_tireAndRest_93 : decode cX2_tireAndRest 93 = .ok (.aload_n 0, 1) := by decide +kernel
theorem dX2_tireAndRest_94 : decode cX2_tireAndRest 94 = .ok (.getfield 12, 3) := by decide +kernel
theorem dX2_tireAndRest_97 : decode cX2_tireAndRest 97 = .ok (.iload_n 3, 1) := by decide +kernel
theorem dX2_tireAndRest_98 : decode cX2_tireAndRest 98 = .ok (.aload_n 0, 1) := by decide +kernel
theorem dX2_tireAndRest_99 : decode cX2_tireAndRest 99 = .ok (.getfield 34, 3) := by decide +kernel
theorem dX2_tireAndRest_102 : decode cX2_tireAndRest 102 = .ok (.iconst 0, 1) := by decide +kernel
theorem dX2_tireAndRest_103 : decode cX2_tireAndRest 103 = .ok (.iaload, 1) := by decide +kernel
theorem dX2_tireAndRest_104 : decode cX2_tireAndRest 104 = .ok (.aload_n 0, 1) := by decide +kernel
theorem dX2_tireAndRest_105 : decode cX2_tireAndRest 105 = .ok (.getfield 34, 3) := by decide +kernel
theorem dX2_tireAndRest_108 : decode cX2_tireAndRest 108 = .ok (.iconst 1, 1) := by decide +kernel
theorem dX2_tireAndRest_109 : decode cX2_tireAndRest 109 = .ok (.iaload, 1) := by decide +kernel
theorem dX2_tireAndRest_110 : decode cX2_tireAndRest 110 = .ok (.iadd, 1) := by decide +kernel
theorem dX2_tireAndRest_111 : decode cX2_tireAndRest 111 = .ok (.invokevirtual 154, 3) := by decide +kernel
theorem dX2_tireAndRest_114 : decode cX2_tireAndRest 114 = .ok (.goto 43, 3) := by decide +kernel
theorem dX2_tireAndRest_117 : decode cX2_tireAndRest 117 = .ok (.iload_n 1, 1) := by decide +kernel
theorem dX2_tireAndRest_118 : decode cX2_tireAndRest 118 = .ok (.iload_n 3, 1) := by decide +kernel
theorem dX2_tireAndRest_119 : decode cX2_tireAndRest 119 = .ok (.invokestatic 151, 3) := by decide +kernel
theorem dX2_tireAndRest_122 : decode cX2_tireAndRest 122 = .ok (.iand, 1) := by decide +kernel
theorem dX2_tireAndRest_123 : decode cX2_tireAndRest 123 = .ok (.ifCond .eq 20, 3) := by decide +kernel
theorem dX2_tireAndRest_126 : decode cX2_tireAndRest 126 = .ok (.aload_n 0, 1) := by decide +kernel
theorem dX2_tireAndRest_127 : decode cX2_tireAndRest 127 = .ok (.getfield 12, 3) := by decide +kernel
theorem dX2_tireAndRest_130 : decode cX2_tireAndRest 130 = .ok (.iload_n 3, 1) := by decide +kernel
theorem dX2_tireAndRest_131 : decode cX2_tireAndRest 131 = .ok (.aload_n 0, 1) := by decide +kernel
theorem dX2_tireAndRest_132 : decode cX2_tireAndRest 132 = .ok (.getfield 34, 3) := by decide +kernel
theorem dX2_tireAndRest_135 : decode cX2_tireAndRest 135 = .ok (.iconst 0, 1) := by decide +kernel
theorem dX2_tireAndRest_136 : decode cX2_tireAndRest 136 = .ok (.iaload, 1) := by decide +kernel
theorem dX2_tireAndRest_137 : decode cX2_tireAndRest 137 = .ok (.invokevirtual 154, 3) := by decide +kernel
theorem dX2_tireAndRest_140 : decode cX2_tireAndRest 140 = .ok (.goto 17, 3) := by decide +kernel
theorem dX2_tireAndRest_143 : decode cX2_tireAndRest 143 = .ok (.aload_n 0, 1) := by decide +kernel
theorem dX2_tireAndRest_144 : decode cX2_tireAndRest 144 = .ok (.getfield 12, 3) := by decide +kernel
theorem dX2_tireAndRest_147 : decode cX2_tireAndRest 147 = .ok (.iload_n 3, 1) := by decide +kernel
theorem dX2_tireAndRest_148 : decode cX2_tireAndRest 148 = .ok (.aload_n 0, 1) := by decide +kernel
theorem dX2_tireAndRest_149 : decode cX2_tireAndRest 149 = .ok (.getfield 34, 3) := by decide +kernel
theorem dX2_tireAndRest_152 : decode cX2_tireAndRest 152 = .ok (.iconst 2, 1) := by decide +kernel
theorem dX2_tireAndRest_153 : decode cX2_tireAndRest 153 = .ok (.iaload, 1) := by decide +kernel
theorem dX2_tireAndRest_154 : decode cX2_tireAndRest 154 = .ok (.invokevirtual 157, 3) := by decide +kernel
theorem dX2_tireAndRest_157 : decode cX2_tireAndRest 157 = .ok (.iinc 3 1, 3) := by decide +kernel
theorem dX2_tireAndRest_160 : decode cX2_tireAndRest 160 = .ok (.goto (-87), 3) := by decide +kernel
theorem dX2_tireAndRest_163 : decode cX2_tireAndRest 163 = .ok (.return_, 1) := by decide +kernel
theorem dX2_adjournTired_0 : decode cX2_adjournTired 0 = .ok (.aload_n 0, 1) := by decide +kernel
theorem dX2_adjournTired_1 : decode cX2_adjournTired 1 = .ok (.getfield 12, 3) := by decide +kernel
theorem dX2_adjournTired_4 : decode cX2_adjournTired 4 = .ok (.aload_n 0, 1) := by decide +kernel
theorem dX2_adjournTired_5 : decode cX2_adjournTired 5 = .ok (.getfield 34, 3) := by decide +kernel
theorem dX2_adjournTired_8 : decode cX2_adjournTired 8 = .ok (.iconst 3, 1) := by decide +kernel
theorem dX2_adjournTired_9 : decode cX2_adjournTired 9 = .ok (.iaload, 1) := by decide +kernel
theorem dX2_adjournTired_10 : decode cX2_adjournTired 10 = .ok (.invokevirtual 160, 3) := by decide +kernel
theorem dX2_adjournTired_13 : decode cX2_adjournTired 13 = .ok (.istore_n 1, 1) := by decide +kernel
theorem dX2_adjournTired_14 : decode cX2_adjournTired 14 = .ok (.iconst 0, 1) := by decide +kernel
theorem dX2_adjournTired_15 : decode cX2_adjournTired 15 = .ok (.istore_n 2, 1) := by decide +kernel
theorem dX2_adjournTired_16 : decode cX2_adjournTired 16 = .ok (.iload_n 2, 1) := by decide +kernel
theorem dX2_adjournTired_17 : decode cX2_adjournTired 17 = .ok (.aload_n 0, 1) := by decide +kernel
theorem dX2_adjournTired_18 : decode cX2_adjournTired 18 = .ok (.getfield 21, 3) := by decide +kernel
theorem dX2_adjournTired_21 : decode cX2_adjournTired 21 = .ok (.getfield 135, 3) := by decide +kernel
theorem dX2_adjournTired_24 : decode cX2_adjournTired 24 = .ok (.if_icmp .ge 58, 3) := by decide +kernel
theorem dX2_adjournTired_27 : decode cX2_adjournTired 27 = .ok (.aload_n 0, 1) := by decide +kernel
theorem dX2_adjournTired_28 : decode cX2_adjournTired 28 = .ok (.getfield 21, 3) := by decide +kernel
theorem dX2_adjournTired_31 : decode cX2_adjournTired 31 = .ok (.iload_n 2, 1) := by decide +kernel
theorem dX2_adjournTired_32 : decode cX2_adjournTired 32 = .ok (.invokevirtual 66, 3) := by decide +kernel
theorem dX2_adjournTired_35 : decode cX2_adjournTired 35 = .ok (.ifCond .eq 41, 3) := by decide +kernel
theorem dX2_adjournTired_38 : decode cX2_adjournTired 38 = .ok (.aload_n 0, 1) := by decide +kernel
theorem dX2_adjournTired_39 : decode cX2_adjournTired 39 = .ok (.getfield 21, 3) := by decide +kernel
theorem dX2_adjournTired_42 : decode cX2_adjournTired 42 = .ok (.getfield 63, 3) := by decide +kernel
theorem dX2_adjournTired_45 : decode cX2_adjournTired 45 = .ok (.iload_n 2, 1) := by decide +kernel
theorem dX2_adjournTired_46 : decode cX2_adjournTired 46 = .ok (.iaload, 1) := by decide +kernel
theorem dX2_adjournTired_47 : decode cX2_adjournTired 47 = .ok (.aload_n 0, 1) := by decide +kernel
theorem dX2_adjournTired_48 : decode cX2_adjournTired 48 = .ok (.getfield 50, 3) := by decide +kernel
theorem dX2_adjournTired_51 : decode cX2_adjournTired 51 = .ok (.if_icmp .ne 25, 3) := by decide +kernel
theorem dX2_adjournTired_54 : decode cX2_adjournTired 54 = .ok (.aload_n 0, 1) := by decide +kernel
theorem dX2_adjournTired_55 : decode cX2_adjournTired 55 = .ok (.getfield 21, 3) := by decide +kernel
theorem dX2_adjournTired_58 : decode cX2_adjournTired 58 = .ok (.getfield 148, 3) := by decide +kernel
theorem dX2_adjournTired_61 : decode cX2_adjournTired 61 = .ok (.iload_n 2, 1) := by decide +kernel
theorem dX2_adjournTired_62 : decode cX2_adjournTired 62 = .ok (.iaload, 1) := by decide +kernel
theorem dX2_adjournTired_63 : decode cX2_adjournTired 63 = .ok (.iload_n 1, 1) := by decide +kernel
theorem dX2_adjournTired_64 : decode cX2_adjournTired 64 = .ok (.iand, 1) := by decide +kernel
theorem dX2_adjournTired_65 : decode cX2_adjournTired 65 = .ok (.ifCond .eq 11, 3) := by decide +kernel
theorem dX2_adjournTired_68 : decode cX2_adjournTired 68 = .ok (.aload_n 0, 1) := by decide +kernel
theorem dX2_adjournTired_69 : decode cX2_adjournTired 69 = .ok (.iload_n 2, 1) := by decide +kernel
theorem dX2_adjournTired_70 : decode cX2_adjournTired 70 = .ok (.iconst 2, 1) := by decide +kernel
theorem dX2_adjournTired_71 : decode cX2_adjournTired 71 = .ok (.iconst 1, 1) := by decide +kernel
theorem dX2_adjournTired_72 : decode cX2_adjournTired 72 = .ok (.invokevirtual 139, 3) := by decide +kernel
theorem dX2_adjournTired_75 : decode cX2_adjournTired 75 = .ok (.pop, 1) := by decide +kernel
theorem dX2_adjournTired_76 : decode cX2_adjournTired 76 = .ok (.iinc 2 1, 3) := by decide +kernel
theorem dX2_adjournTired_79 : decode cX2_adjournTired 79 = .ok (.goto (-63), 3) := by decide +kernel
theorem dX2_adjournTired_82 : decode cX2_adjournTired 82 = .ok (.return_, 1) := by decide +kernel
theorem dX2_working_0 : decode cX2_working 0 = .ok (.iconst 0, 1) := by decide +kernel
theorem dX2_working_1 : decode cX2_working 1 = .ok (.istore_n 1, 1) := by decide +kernel
theorem dX2_working_2 : decode cX2_working 2 = .ok (.iconst 0, 1) := by decide +kernel
theorem dX2_working_3 : decode cX2_working 3 = .ok (.istore_n 2, 1) := by decide +kernel
theorem dX2_working_4 : decode cX2_working 4 = .ok (.iload_n 2, 1) := by decide +kernel
theorem dX2_working_5 : decode cX2_working 5 = .ok (.aload_n 0, 1) := by decide +kernel
theorem dX2_working_6 : decode cX2_working 6 = .ok (.getfield 21, 3) := by decide +kernel
theorem dX2_working_9 : decode cX2_working 9 = .ok (.getfield 135, 3) := by decide +kernel
theorem dX2_working_12 : decode cX2_working 12 = .ok (.if_icmp .ge 29, 3) := by decide +kernel
theorem dX2_working_15 : decode cX2_working 15 = .ok (.aload_n 0, 1) := by decide +kernel
theorem dX2_working_16 : decode cX2_working 16 = .ok (.iload_n 2, 1) := by decide +kernel
theorem dX2_working_17 : decode cX2_working 17 = .ok (.invokevirtual 145, 3) := by decide +kernel
theorem dX2_working_20 : decode cX2_working 20 = .ok (.ifCond .eq 15, 3) := by decide +kernel
theorem dX2_working_23 : decode cX2_working 23 = .ok (.iload_n 1, 1) := by decide +kernel
theorem dX2_working_24 : decode cX2_working 24 = .ok (.aload_n 0, 1) := by decide +kernel
theorem dX2_working_25 : decode cX2_working 25 = .ok (.getfield 21, 3) := by decide +kernel
theorem dX2_working_28 : decode cX2_working 28 = .ok (.getfield 148, 3) := by decide +kernel
theorem dX2_working_31 : decode cX2_working 31 = .ok (.iload_n 2, 1) := by decide +kernel
theorem dX2_working_32 : decode cX2_working 32 = .ok (.iaload, 1) := by decide +kernel
theorem dX2_working_33 : decode cX2_working 33 = .ok (.ior, 1) := by decide +kernel
theorem dX2_working_34 : decode cX2_working 34 = .ok (.istore_n 1, 1) := by decide +kernel
theorem dX2_working_35 : decode cX2_working 35 = .ok (.iinc 2 1, 3) := by decide +kernel
theorem dX2_working_38 : decode cX2_working 38 = .ok (.goto (-34), 3) := by decide +kernel
theorem dX2_working_41 : decode cX2_working 41 = .ok (.iload_n 1, 1) := by decide +kernel
theorem dX2_working_42 : decode cX2_working 42 = .ok (.ireturn, 1) := by decide +kernel
theorem dX2_workplaceOf_0 : decode cX2_workplaceOf 0 = .ok (.iconst 0, 1) := by decide +kernel
theorem dX2_workplaceOf_1 : decode cX2_workplaceOf 1 = .ok (.istore_n 2, 1) := by decide +kernel
theorem dX2_workplaceOf_2 : decode cX2_workplaceOf 2 = .ok (.iload_n 2, 1) := by decide +kernel
theorem dX2_workplaceOf_3 : decode cX2_workplaceOf 3 = .ok (.aload_n 0, 1) := by decide +kernel
theorem dX2_workplaceOf_4 : decode cX2_workplaceOf 4 = .ok (.getfield 21, 3) := by decide +kernel
theorem dX2_workplaceOf_7 : decode cX2_workplaceOf 7 = .ok (.getfield 135, 3) := by decide +kernel
theorem dX2_workplaceOf_10 : decode cX2_workplaceOf 10 = .ok (.if_icmp .ge 31, 3) := by decide +kernel
theorem dX2_workplaceOf_13 : decode cX2_workplaceOf 13 = .ok (.aload_n 0, 1) := by decide +kernel
theorem dX2_workplaceOf_14 : decode cX2_workplaceOf 14 = .ok (.iload_n 2, 1) := by decide +kernel
theorem dX2_workplaceOf_15 : decode cX2_workplaceOf 15 = .ok (.invokevirtual 145, 3) := by decide +kernel
theorem dX2_workplaceOf_18 : decode cX2_workplaceOf 18 = .ok (.ifCond .eq 17, 3) := by decide +kernel
theorem dX2_workplaceOf_21 : decode cX2_workplaceOf 21 = .ok (.aload_n 0, 1) := by decide +kernel
theorem dX2_workplaceOf_22 : decode cX2_workplaceOf 22 = .ok (.getfield 21, 3) := by decide +kernel
theorem dX2_workplaceOf_25 : decode cX2_workplaceOf 25 = .ok (.iload_n 2, 1) := by decide +kernel
theorem dX2_workplaceOf_26 : decode cX2_workplaceOf 26 = .ok (.iload_n 1, 1) := by decide +kernel
theorem dX2_workplaceOf_27 : decode cX2_workplaceOf 27 = .ok (.invokevirtual 163, 3) := by decide +kernel
theorem dX2_workplaceOf_30 : decode cX2_workplaceOf 30 = .ok (.ifCond .eq 5, 3) := by decide +kernel
theorem dX2_workplaceOf_33 : decode cX2_workplaceOf 33 = .ok (.iload_n 2, 1) := by decide +kernel
theorem dX2_workplaceOf_34 : decode cX2_workplaceOf 34 = .ok (.ireturn, 1) := by decide +kernel
theorem dX2_workplaceOf_35 : decode cX2_workplaceOf 35 = .ok (.iinc 2 1, 3) := by decide +kernel
theorem dX2_workplaceOf_38 : decode cX2_workplaceOf 38 = .ok (.goto (-36), 3) := by decide +kernel
theorem dX2_workplaceOf_41 : decode cX2_workplaceOf 41 = .ok (.iconst (-1), 1) := by decide +kernel
theorem dX2_workplaceOf_42 : decode cX2_workplaceOf 42 = .ok (.ireturn, 1) := by decide +kernel
theorem dX2_ofInterpreter_0 : decode cX2_ofInterpreter 0 = .ok (.iload_n 2, 1) := by decide +kernel
theorem dX2_ofInterpreter_1 : decode cX2_ofInterpreter 1 = .ok (.tableswitch 122 0 7 #[47, 57, 67, 77, 87, 97, 106, 112], 47) := by decide +kernel
theorem dX2_ofInterpreter_48 : decode cX2_ofInterpreter 48 = .ok (.aload_n 0, 1) := by decide +kernel
theorem dX2_ofInterpreter_49 : decode cX2_ofInterpreter 49 = .ok (.getfield 12, 3) := by decide +kernel
theorem dX2_ofInterpreter_52 : decode cX2_ofInterpreter 52 = .ok (.getfield 167, 3) := by decide +kernel
theorem dX2_ofInterpreter_55 : decode cX2_ofInterpreter 55 = .ok (.iload_n 1, 1) := by decide +kernel
theorem dX2_ofInterpreter_56 : decode cX2_ofInterpreter 56 = .ok (.iaload, 1) := by decide +kernel
theorem dX2_ofInterpreter_57 : decode cX2_ofInterpreter 57 = .ok (.ireturn, 1) := by decide +kernel
theorem dX2_ofInterpreter_58 : decode cX2_ofInterpreter 58 = .ok (.aload_n 0, 1) := by decide +kernel
theorem dX2_ofInterpreter_59 : decode cX2_ofInterpreter 59 = .ok (.getfield 12, 3) := by decide +kernel
theorem dX2_ofInterpreter_62 : decode cX2_ofInterpreter 62 = .ok (.getfield 170, 3) := by decide +kernel
theorem dX2_ofInterpreter_65 : decode cX2_ofInterpreter 65 = .ok (.iload_n 1, 1) := by decide +kernel
theorem dX2_ofInterpreter_66 : decode cX2_ofInterpreter 66 = .ok (.iaload, 1) := by decide +kernel
theorem dX2_ofInterpreter_67 : decode cX2_ofInterpreter 67 = .ok (.ireturn, 1) := by decide +kernel
theorem dX2_ofInterpreter_68 : decode cX2_ofInterpreter 68 = .ok (.aload_n 0, 1) := by decide +kernel
theorem dX2_ofInterpreter_69 : decode cX2_ofInterpreter 69 = .ok (.getfield 12, 3) := by decide +kernel
theorem dX2_ofInterpreter_72 : decode cX2_ofInterpreter 72 = .ok (.getfield 97, 3) := by decide +kernel
theorem dX2_ofInterpreter_75 : decode cX2_ofInterpreter 75 = .ok (.iload_n 1, 1) := by decide +kernel
theorem dX2_ofInterpreter_76 : decode cX2_ofInterpreter 76 = .ok (.iaload, 1) := by decide +kernel
theorem dX2_ofInterpreter_77 : decode cX2_ofInterpreter 77 = .ok (.ireturn, 1) := by decide +kernel
theorem dX2_ofInterpreter_78 : decode cX2_ofInterpreter 78 = .ok (.aload_n 0, 1) := by decide +kernel
theorem dX2_ofInterpreter_79 : decode cX2_ofInterpreter 79 = .ok (.getfield 12, 3) := by decide +kernel
theorem dX2_ofInterpreter_82 : decode cX2_ofInterpreter 82 = .ok (.getfield 173, 3) := by decide +kernel
theorem dX2_ofInterpreter_85 : decode cX2_ofInterpreter 85 = .ok (.iload_n 1, 1) := by decide +kernel
theorem dX2_ofInterpreter_86 : decode cX2_ofInterpreter 86 = .ok (.iaload, 1) := by decide +kernel
theorem dX2_ofInterpreter_87 : decode cX2_ofInterpreter 87 = .ok (.ireturn, 1) := by decide +kernel
theorem dX2_ofInterpreter_88 : decode cX2_ofInterpreter 88 = .ok (.aload_n 0, 1) := by decide +kernel
theorem dX2_ofInterpreter_89 : decode cX2_ofInterpreter 89 = .ok (.getfield 12, 3) := by decide +kernel
theorem dX2_ofInterpreter_92 : decode cX2_ofInterpreter 92 = .ok (.getfield 176, 3) := by decide +kernel
theorem dX2_ofInterpreter_95 : decode cX2_ofInterpreter 95 = .ok (.iload_n 1, 1) := by decide +kernel
theorem dX2_ofInterpreter_96 : decode cX2_ofInterpreter 96 = .ok (.iaload, 1) := by decide +kernel
theorem dX2_ofInterpreter_97 : decode cX2_ofInterpreter 97 = .ok (.ireturn, 1) := by decide +kernel
theorem dX2_ofInterpreter_98 : decode cX2_ofInterpreter 98 = .ok (.aload_n 0, 1) := by decide +kernel
theorem dX2_ofInterpreter_99 : decode cX2_ofInterpreter 99 = .ok (.getfield 21, 3) := by decide +kernel
theorem dX2_ofInterpreter_102 : decode cX2_ofInterpreter 102 = .ok (.iload_n 1, 1) := by decide +kernel
theorem dX2_ofInterpreter_103 : decode cX2_ofInterpreter 103 = .ok (.invokevirtual 177, 3) := by decide +kernel
theorem dX2_ofInterpreter_106 : decode cX2_ofInterpreter 106 = .ok (.ireturn, 1) := by decide +kernel
theorem dX2_ofInterpreter_107 : decode cX2_ofInterpreter 107 = .ok (.aload_n 0, 1) := by decide +kernel
theorem dX2_ofInterpreter_108 : decode cX2_ofInterpreter 108 = .ok (.iload_n 1, 1) := by decide +kernel
theorem dX2_ofInterpreter_109 : decode cX2_ofInterpreter 109 = .ok (.invokevirtual 180, 3) := by decide +kernel
theorem dX2_ofInterpreter_112 : decode cX2_ofInterpreter 112 = .ok (.ireturn, 1) := by decide +kernel
theorem dX2_ofInterpreter_113 : decode cX2_ofInterpreter 113 = .ok (.aload_n 0, 1) := by decide +kernel
theorem dX2_ofInterpreter_114 : decode cX2_ofInterpreter 114 = .ok (.getfield 12, 3) := by decide +kernel
theorem dX2_ofInterpreter_117 : decode cX2_ofInterpreter 117 = .ok (.getfield 183, 3) := by decide +kernel
theorem dX2_ofInterpreter_120 : decode cX2_ofInterpreter 120 = .ok (.iload_n 1, 1) := by decide +kernel
theorem dX2_ofInterpreter_121 : decode cX2_ofInterpreter 121 = .ok (.iaload, 1) := by decide +kernel
theorem dX2_ofInterpreter_122 : decode cX2_ofInterpreter 122 = .ok (.ireturn, 1) := by decide +kernel
theorem dX2_ofInterpreter_123 : decode cX2_ofInterpreter 123 = .ok (.iconst (-1), 1) := by decide +kernel
theorem dX2_ofInterpreter_124 : decode cX2_ofInterpreter 124 = .ok (.ireturn, 1) := by decide +kernel
theorem dX2_ofHearing_0 : decode cX2_ofHearing 0 = .ok (.iload_n 2, 1) := by decide +kernel
theorem dX2_ofHearing_1 : decode cX2_ofHearing 1 = .ok (.tableswitch 194 0 11 #[63, 73, 83, 93, 103, 113, 123, 133, 143, 153, 160, 170], 63) := by decide +kernel
theorem dX2_ofHearing_64 : decode cX2_ofHearing 64 = .ok (.aload_n 0, 1) := by decide +kernel
theorem dX2_ofHearing_65 : decode cX2_ofHearing 65 = .ok (.getfield 21, 3) := by decide +kernel
theorem dX2_ofHearing_68 : decode cX2_ofHearing 68 = .ok (.getfield 84, 3) := by decide +kernel
theorem dX2_ofHearing_71 : decode cX2_ofHearing 71 = .ok (.iload_n 1, 1) := by decide +kernel
theorem dX2_ofHearing_72 : decode cX2_ofHearing 72 = .ok (.iaload, 1) := by decide +kernel
theorem dX2_ofHearing_73 : decode cX2_ofHearing 73 = .ok (.ireturn, 1) := by decide +kernel
theorem dX2_ofHearing_74 : decode cX2_ofHearing 74 = .ok (.aload_n 0, 1) := by decide +kernel
theorem dX2_ofHearing_75 : decode cX2_ofHearing 75 = .ok (.getfield 21, 3) := by decide +kernel
theorem dX2_ofHearing_78 : decode cX2_ofHearing 78 = .ok (.getfield 73, 3) := by decide +kernel
theorem dX2_ofHearing_81 : decode cX2_ofHearing 81 = .ok (.iload_n 1, 1) := by decide +kernel
theorem dX2_ofHearing_82 : decode cX2_ofHearing 82 = .ok (.iaload, 1) := by decide +kernel
theorem dX2_ofHearing_83 : decode cX2_ofHearing 83 = .ok (.ireturn, 1) := by decide +kernel
theorem dX2_ofHearing_84 : decode cX2_ofHearing 84 = .ok (.aload_n 0, 1) := by decide +kernel
theorem dX2_ofHearing_85 : decode cX2_ofHearing 85 = .ok (.getfield 21, 3) := by decide +kernel
theorem dX2_ofHearing_88 : decode cX2_ofHearing 88 = .ok (.getfield 63, 3) := by decide +kernel
theorem dX2_ofHearing_91 : decode cX2_ofHearing 91 = .ok (.iload_n 1, 1) := by decide +kernel
theorem dX2_ofHearing_92 : decode cX2_ofHearing 92 = .ok (.iaload, 1) := by decide +kernel
theorem dX2_ofHearing_93 : decode cX2_ofHearing 93 = .ok (.ireturn, 1) := by decide +kernel
theorem dX2_ofHearing_94 : decode cX2_ofHearing 94 = .ok (.aload_n 0, 1) := by decide +kernel
theorem dX2_ofHearing_95 : decode cX2_ofHearing 95 = .ok (.getfield 21, 3) := by decide +kernel
theorem dX2_ofHearing_98 : decode cX2_ofHearing 98 = .ok (.getfield 100, 3) := by decide +kernel
theorem dX2_ofHearing_101 : decode cX2_ofHearing 101 = .ok (.iload_n 1, 1) := by decide +kernel
theorem dX2_ofHearing_102 : decode cX2_ofHearing 102 = .ok (.iaload, 1) := by decide +kernel
theorem dX2_ofHearing_103 : decode cX2_ofHearing 103 = .ok (.ireturn, 1) := by decide +kernel
theorem dX2_ofHearing_104 : decode cX2_ofHearing 104 = .ok (.aload_n 0, 1) := by decide +kernel
theorem dX2_ofHearing_105 : decode cX2_ofHearing 105 = .ok (.getfield 21, 3) := by decide +kernel
theorem dX2_ofHearing_108 : decode cX2_ofHearing 108 = .ok (.getfield 127, 3) := by decide +kernel
theorem dX2_ofHearing_111 : decode cX2_ofHearing 111 = .ok (.iload_n 1, 1) := by decide +kernel
theorem dX2_ofHearing_112 : decode cX2_ofHearing 112 = .ok (.iaload, 1) := by decide +kernel
theorem dX2_ofHearing_113 : decode cX2_ofHearing 113 = .ok (.ireturn, 1) := by decide +kernel
theorem dX2_ofHearing_114 : decode cX2_ofHearing 114 = .ok (.aload_n 0, 1) := by decide +kernel
theorem dX2_ofHearing_115 : decode cX2_ofHearing 115 = .ok (.getfield 21, 3) := by decide +kernel
theorem dX2_ofHearing_118 : decode cX2_ofHearing 118 = .ok (.getfield 107, 3) := by decide +kernel
theorem dX2_ofHearing_121 : decode cX2_ofHearing 121 = .ok (.iload_n 1, 1) := by decide +kernel
theorem dX2_ofHearing_122 : decode cX2_ofHearing 122 = .ok (.iaload, 1) := by decide +kernel
theorem dX2_ofHearing_123 : decode cX2_ofHearing 123 = .ok (.ireturn, 1) := by decide +kernel
theorem dX2_ofHearing_124 : decode cX2_ofHearing 124 = .ok (.aload_n 0, 1) := by decide +kernel
theorem dX2_ofHearing_125 : decode cX2_ofHearing 125 = .ok (.getfield 21, 3) := by decide +kernel
theorem dX2_ofHearing_128 : decode cX2_ofHearing 128 = .ok (.iload_n 1, 1) := by decide +kernel
theorem dX2_ofHearing_129 : decode cX2_ofHearing 129 = .ok (.iconst 0, 1) := by decide +kernel
theorem dX2_ofHearing_130 : decode cX2_ofHearing 130 = .ok (.invokevirtual 103, 3) := by decide +kernel
theorem dX2_ofHearing_133 : decode cX2_ofHearing 133 = .ok (.ireturn, 1) := by decide +kernel
theorem dX2_ofHearing_134 : decode cX2_ofHearing 134 = .ok (.aload_n 0, 1) := by decide +kernel
theorem dX2_ofHearing_135 : decode cX2_ofHearing 135 = .ok (.getfield 21, 3) := by decide +kernel
theorem dX2_ofHearing_138 : decode cX2_ofHearing 138 = .ok (.iload_n 1, 1) := by decide +kernel
theorem dX2_ofHearing_139 : decode cX2_ofHearing 139 = .ok (.iconst 1, 1) := by decide +kernel
theorem dX2_ofHearing_140 : decode cX2_ofHearing 140 = .ok (.invokevirtual 103, 3) := by decide +kernel
theorem dX2_ofHearing_143 : decode cX2_ofHearing 143 = .ok (.ireturn, 1) := by decide +kernel
theorem dX2_ofHearing_144 : decode cX2_ofHearing 144 = .ok (.aload_n 0, 1) := by decide +kernel
theorem dX2_ofHearing_145 : decode cX2_ofHearing 145 = .ok (.getfield 21, 3) := by decide +kernel
theorem dX2_ofHearing_148 : decode cX2_ofHearing 148 = .ok (.iload_n 1, 1) := by decide +kernel
theorem dX2_ofHearing_149 : decode cX2_ofHearing 149 = .ok (.iconst 2, 1) := by decide +kernel
theorem dX2_ofHearing_150 : decode cX2_ofHearing 150 = .ok (.invokevirtual 103, 3) := by decide +kernel
theorem dX2_ofHearing_153 : decode cX2_ofHearing 153 = .ok (.ireturn, 1) := by decide +kernel
theorem dX2_ofHearing_154 : decode cX2_ofHearing 154 = .ok (.aload_n 0, 1) := by decide +kernel
theorem dX2_ofHearing_155 : decode cX2_ofHearing 155 = .ok (.iload_n 1, 1) := by decide +kernel
theorem dX2_ofHearing_156 : decode cX2_ofHearing 156 = .ok (.iconst 2, 1) := by decide +kernel
theorem dX2_ofHearing_157 : decode cX2_ofHearing 157 = .ok (.invokevirtual 120, 3) := by decide +kernel
theorem dX2_ofHearing_160 : decode cX2_ofHearing 160 = .ok (.ireturn, 1) := by decide +kernel
theorem dX2_ofHearing_161 : decode cX2_ofHearing 161 = .ok (.aload_n 0, 1) := by decide +kernel
theorem dX2_ofHearing_162 : decode cX2_ofHearing 162 = .ok (.getfield 21, 3) := by decide +kernel
theorem dX2_ofHearing_165 : decode cX2_ofHearing 165 = .ok (.getfield 130, 3) := by decide +kernel
theorem dX2_ofHearing_168 : decode cX2_ofHearing 168 = .ok (.iload_n 1, 1) := by decide +kernel
theorem dX2_ofHearing_169 : decode cX2_ofHearing 169 = .ok (.iaload, 1) := by decide +kernel
theorem dX2_ofHearing_170 : decode cX2_ofHearing 170 = .ok (.ireturn, 1) := by decide +kernel
theorem dX2_ofHearing_171 : decode cX2_ofHearing 171 = .ok (.aload_n 0, 1) := by decide +kernel
theorem dX2_ofHearing_172 : decode cX2_ofHearing 172 = .ok (.getfield 21, 3) := by decide +kernel
theorem dX2_ofHearing_175 : decode cX2_ofHearing 175 = .ok (.iload_n 1, 1) := by decide +kernel
theorem dX2_ofHearing_176 : decode cX2_ofHearing 176 = .ok (.invokevirtual 66, 3) := by decide +kernel
theorem dX2_ofHearing_179 : decode cX2_ofHearing 179 = .ok (.ifCond .eq 14, 3) := by decide +kernel
theorem dX2_ofHearing_182 : decode cX2_ofHearing 182 = .ok (.aload_n 0, 1) := by decide +kernel
theorem dX2_ofHearing_183 : decode cX2_ofHearing 183 = .ok (.getfield 21, 3) := by decide +kernel
theorem dX2_ofHearing_186 : decode cX2_ofHearing 186 = .ok (.iload_n 1, 1) := by decide +kernel
theorem dX2_ofHearing_187 : decode cX2_ofHearing 187 = .ok (.invokevirtual 186, 3) := by decide +kernel
theorem dX2_ofHearing_190 : decode cX2_ofHearing 190 = .ok (.goto 4, 3) := by decide +kernel
theorem dX2_ofHearing_193 : decode cX2_ofHearing 193 = .ok (.iconst 0, 1) := by decide +kernel
theorem dX2_ofHearing_194 : decode cX2_ofHearing 194 = .ok (.ireturn, 1) := by decide +kernel
theorem dX2_ofHearing_195 : decode cX2_ofHearing 195 = .ok (.iconst (-1), 1) := by decide +kernel
theorem dX2_ofHearing_196 : decode cX2_ofHearing 196 = .ok (.ireturn, 1) := by decide +kernel
theorem dX2_numberOf_0 : decode cX2_numberOf 0 = .ok (.iload_n 1, 1) := by decide +kernel
theorem dX2_numberOf_1 : decode cX2_numberOf 1 = .ok (.tableswitch 151 0 11 #[63, 71, 79, 84, 93, 101, 110, 119, 128, 133, 138, 143], 63) := by decide +kernel
theorem dX2_numberOf_64 : decode cX2_numberOf 64 = .ok (.aload_n 0, 1) := by decide +kernel
theorem dX2_numberOf_65 : decode cX2_numberOf 65 = .ok (.getfield 12, 3) := by decide +kernel
theorem dX2_numberOf_68 : decode cX2_numberOf 68 = .ok (.getfield 94, 3) := by decide +kernel
theorem dX2_numberOf_71 : decode cX2_numberOf 71 = .ok (.ireturn, 1) := by decide +kernel
theorem dX2_numberOf_72 : decode cX2_numberOf 72 = .ok (.aload_n 0, 1) := by decide +kernel
theorem dX2_numberOf_73 : decode cX2_numberOf 73 = .ok (.getfield 21, 3) := by decide +kernel
theorem dX2_numberOf_76 : decode cX2_numberOf 76 = .ok (.getfield 135, 3) := by decide +kernel
theorem dX2_numberOf_79 : decode cX2_numberOf 79 = .ok (.ireturn, 1) := by decide +kernel
theorem dX2_numberOf_80 : decode cX2_numberOf 80 = .ok (.aload_n 0, 1) := by decide +kernel
theorem dX2_numberOf_81 : decode cX2_numberOf 81 = .ok (.getfield 50, 3) := by decide +kernel
theorem dX2_numberOf_84 : decode cX2_numberOf 84 = .ok (.ireturn, 1) := by decide +kernel
theorem dX2_numberOf_85 : decode cX2_numberOf 85 = .ok (.aload_n 0, 1) := by decide +kernel
theorem dX2_numberOf_86 : decode cX2_numberOf 86 = .ok (.getfield 21, 3) := by decide +kernel
theorem dX2_numberOf_89 : decode cX2_numberOf 89 = .ok (.iconst 0, 1) := by decide +kernel
theorem dX2_numberOf_90 : decode cX2_numberOf 90 = .ok (.invokevirtual 189, 3) := by decide +kernel
theorem dX2_numberOf_93 : decode cX2_numberOf 93 = .ok (.ireturn, 1) := by decide +kernel
theorem dX2_numberOf_94 : decode cX2_numberOf 94 = .ok (.aload_n 0, 1) := by decide +kernel
theorem dX2_numberOf_95 : decode cX2_numberOf 95 = .ok (.getfield 21, 3) := by decide +kernel
theorem dX2_numberOf_98 : decode cX2_numberOf 98 = .ok (.invokevirtual 192, 3) := by decide +kernel
theorem dX2_numberOf_101 : decode cX2_numberOf 101 = .ok (.ireturn, 1) := by decide +kernel
theorem dX2_numberOf_102 : decode cX2_numberOf 102 = .ok (.aload_n 0, 1) := by decide +kernel
theorem dX2_numberOf_103 : decode cX2_numberOf 103 = .ok (.getfield 21, 3) := by decide +kernel
theorem dX2_numberOf_106 : decode cX2_numberOf 106 = .ok (.iconst 1, 1) := by decide +kernel
theorem dX2_numberOf_107 : decode cX2_numberOf 107 = .ok (.invokevirtual 189, 3) := by decide +kernel
theorem dX2_numberOf_110 : decode cX2_numberOf 110 = .ok (.ireturn, 1) := by decide +kernel
theorem dX2_numberOf_111 : decode cX2_numberOf 111 = .ok (.aload_n 0, 1) := by decide +kernel
theorem dX2_numberOf_112 : decode cX2_numberOf 112 = .ok (.getfield 21, 3) := by decide +kernel
theorem dX2_numberOf_115 : decode cX2_numberOf 115 = .ok (.iconst 2, 1) := by decide +kernel
theorem dX2_numberOf_116 : decode cX2_numberOf 116 = .ok (.invokevirtual 189, 3) := by decide +kernel
theorem dX2_numberOf_119 : decode cX2_numberOf 119 = .ok (.ireturn, 1) := by decide +kernel
theorem dX2_numberOf_120 : decode cX2_numberOf 120 = .ok (.aload_n 0, 1) := by decide +kernel
theorem dX2_numberOf_121 : decode cX2_numberOf 121 = .ok (.getfield 21, 3) := by decide +kernel
theorem dX2_numberOf_124 : decode cX2_numberOf 124 = .ok (.iconst 3, 1) := by decide +kernel
theorem dX2_numberOf_125 : decode cX2_numberOf 125 = .ok (.invokevirtual 189, 3) := by decide +kernel
theorem dX2_numberOf_128 : decode cX2_numberOf 128 = .ok (.ireturn, 1) := by decide +kernel
theorem dX2_numberOf_129 : decode cX2_numberOf 129 = .ok (.aload_n 0, 1) := by decide +kernel
theorem dX2_numberOf_130 : decode cX2_numberOf 130 = .ok (.getfield 54, 3) := by decide +kernel
theorem dX2_numberOf_133 : decode cX2_numberOf 133 = .ok (.ireturn, 1) := by decide +kernel
theorem dX2_numberOf_134 : decode cX2_numberOf 134 = .ok (.aload_n 0, 1) := by decide +kernel
theorem dX2_numberOf_135 : decode cX2_numberOf 135 = .ok (.getfield 57, 3) := by decide +kernel
theorem dX2_numberOf_138 : decode cX2_numberOf 138 = .ok (.ireturn, 1) := by decide +kernel
theorem dX2_numberOf_139 : decode cX2_numberOf 139 = .ok (.aload_n 0, 1) := by decide +kernel
theorem dX2_numberOf_140 : decode cX2_numberOf 140 = .ok (.getfield 60, 3) := by decide +kernel
theorem dX2_numberOf_143 : decode cX2_numberOf 143 = .ok (.ireturn, 1) := by decide +kernel
theorem dX2_numberOf_144 : decode cX2_numberOf 144 = .ok (.aload_n 0, 1) := by decide +kernel
theorem dX2_numberOf_145 : decode cX2_numberOf 145 = .ok (.invokevirtual 196, 3) := by decide +kernel
theorem dX2_numberOf_148 : decode cX2_numberOf 148 = .ok (.invokestatic 199, 3) := by decide +kernel
theorem dX2_numberOf_151 : decode cX2_numberOf 151 = .ok (.ireturn, 1) := by decide +kernel
theorem dX2_numberOf_152 : decode cX2_numberOf 152 = .ok (.iconst (-1), 1) := by decide +kernel
theorem dX2_numberOf_153 : decode cX2_numberOf 153 = .ok (.ireturn, 1) := by decide +kernel
theorem dX3_init_0 : decode cX3_init 0 = .ok (.aload_n 0, 1) := by decide +kernel
theorem dX3_init_1 : decode cX3_init 1 = .ok (.invokespecial 3, 3) := by decide +kernel
theorem dX3_init_4 : decode cX3_init 4 = .ok (.aload_n 0, 1) := by decide +kernel
theorem dX3_init_5 : decode cX3_init 5 = .ok (.bipush 30, 2) := by decide +kernel
theorem dX3_init_7 : decode cX3_init 7 = .ok (.newarray .int, 2) := by decide +kernel
theorem dX3_init_9 : decode cX3_init 9 = .ok (.putfield 9, 3) := by decide +kernel
theorem dX3_init_12 : decode cX3_init 12 = .ok (.aload_n 0, 1) := by decide +kernel
theorem dX3_init_13 : decode cX3_init 13 = .ok (.bipush 30, 2) := by decide +kernel
theorem dX3_init_15 : decode cX3_init 15 = .ok (.newarray .int, 2) := by decide +kernel
theorem dX3_init_17 : decode cX3_init 17 = .ok (.putfield 15, 3) := by decide +kernel
theorem dX3_init_20 : decode cX3_init 20 = .ok (.aload_n 0, 1) := by decide +kernel
theorem dX3_init_21 : decode cX3_init 21 = .ok (.bipush 30, 2) := by decide +kernel
theorem dX3_init_23 : decode cX3_init 23 = .ok (.newarray .int, 2) := by decide +kernel
theorem dX3_init_25 : decode cX3_init 25 = .ok (.putfield 18, 3) := by decide +kernel
theorem dX3_init_28 : decode cX3_init 28 = .ok (.aload_n 0, 1) := by decide +kernel
theorem dX3_init_29 : decode cX3_init 29 = .ok (.bipush 30, 2) := by decide +kernel
theorem dX3_init_31 : decode cX3_init 31 = .ok (.newarray .int, 2) := by decide +kernel
theorem dX3_init_33 : decode cX3_init 33 = .ok (.putfield 21, 3) := by decide +kernel
theorem dX3_init_36 : decode cX3_init 36 = .ok (.aload_n 0, 1) := by decide +kernel
theorem dX3_init_37 : decode cX3_init 37 = .ok (.bipush 30, 2) := by decide +kernel
theorem dX3_init_39 : decode cX3_init 39 = .ok (.newarray .int, 2) := by decide +kernel
theorem dX3_init_41 : decode cX3_init 41 = .ok (.putfield 24, 3) := by decide +kernel
theorem dX3_init_44 : decode cX3_init 44 = .ok (.aload_n 0, 1) := by decide +kernel
theorem dX3_init_45 : decode cX3_init 45 = .ok (.bipush 30, 2) := by decide +kernel
theorem dX3_init_47 : decode cX3_init 47 = .ok (.newarray .int, 2) := by decide +kernel
theorem dX3_init_49 : decode cX3_init 49 = .ok (.putfield 27, 3) := by decide +kernel
theorem dX3_init_52 : decode cX3_init 52 = .ok (.aload_n 0, 1) := by decide +kernel
theorem dX3_init_53 : decode cX3_init 53 = .ok (.bipush 30, 2) := by decide +kernel
theorem dX3_init_55 : decode cX3_init 55 = .ok (.newarray .int, 2) := by decide +kernel
theorem dX3_init_57 : decode cX3_init 57 = .ok (.putfield 30, 3) := by decide +kernel
theorem dX3_init_60 : decode cX3_init 60 = .ok (.aload_n 0, 1) := by decide +kernel
theorem dX3_init_61 : decode cX3_init 61 = .ok (.bipush 30, 2) := by decide +kernel
theorem dX3_init_63 : decode cX3_init 63 = .ok (.newarray .int, 2) := by decide +kernel
theorem dX3_init_65 : decode cX3_init 65 = .ok (.putfield 33, 3) := by decide +kernel
theorem dX3_init_68 : decode cX3_init 68 = .ok (.aload_n 0, 1) := by decide +kernel
theorem dX3_init_69 : decode cX3_init 69 = .ok (.bipush 90, 2) := by decide +kernel
theorem dX3_init_71 : decode cX3_init 71 = .ok (.newarray .int, 2) := by decide +kernel
theorem dX3_init_73 : decode cX3_init 73 = .ok (.putfield 36, 3) := by decide +kernel
theorem dX3_init_76 : decode cX3_init 76 = .ok (.return_, 1) := by decide +kernel
theorem dX3_copyFrom_0 : decode cX3_copyFrom 0 = .ok (.aload_n 0, 1) := by decide +kernel
theorem dX3_copyFrom_1 : decode cX3_copyFrom 1 = .ok (.aload_n 1, 1) := by decide +kernel
theorem dX3_copyFrom_2 : decode cX3_copyFrom 2 = .ok (.getfield 39, 3) := by decide +kernel
theorem dX3_copyFrom_5 : decode cX3_copyFrom 5 = .ok (.putfield 39, 3) := by decide +kernel
theorem dX3_copyFrom_8 : decode cX3_copyFrom 8 = .ok (.aload_n 1, 1) := by decide +kernel
theorem dX3_copyFrom_9 : decode cX3_copyFrom 9 = .ok (.getfield 9, 3) := by decide +kernel
theorem dX3_copyFrom_12 : decode cX3_copyFrom 12 = .ok (.iconst 0, 1) := by decide +kernel
theorem dX3_copyFrom_13 : decode cX3_copyFrom 13 = .ok (.aload_n 0, 1) := by decide +kernel
theorem dX3_copyFrom_14 : decode cX3_copyFrom 14 = .ok (.getfield 9, 3) := by decide +kernel
theorem dX3_copyFrom_17 : decode cX3_copyFrom 17 = .ok (.iconst 0, 1) := by decide +kernel
theorem dX3_copyFrom_18 : decode cX3_copyFrom 18 = .ok (.bipush 30, 2) := by decide +kernel
theorem dX3_copyFrom_20 : decode cX3_copyFrom 20 = .ok (.invokestatic 43, 3) := by decide +kernel
theorem dX3_copyFrom_23 : decode cX3_copyFrom 23 = .ok (.aload_n 1, 1) := by decide +kernel
theorem dX3_copyFrom_24 : decode cX3_copyFrom 24 = .ok (.getfield 15, 3) := by decide +kernel
theorem dX3_copyFrom_27 : decode cX3_copyFrom 27 = .ok (.iconst 0, 1) := by decide +kernel
theorem dX3_copyFrom_28 : decode cX3_copyFrom 28 = .ok (.aload_n 0, 1) := by decide +kernel
theorem dX3_copyFrom_29 : decode cX3_copyFrom 29 = .ok (.getfield 15, 3) := by decide +kernel
theorem dX3_copyFrom_32 : decode cX3_copyFrom 32 = .ok (.iconst 0, 1) := by decide +kernel
theorem dX3_copyFrom_33 : decode cX3_copyFrom 33 = .ok (.bipush 30, 2) := by decide +kernel
theorem dX3_copyFrom_35 : decode cX3_copyFrom 35 = .ok (.invokestatic 43, 3) := by decide +kernel
theorem dX3_copyFrom_38 : decode cX3_copyFrom 38 = .ok (.aload_n 1, 1) := by decide +kernel
theorem dX3_copyFrom_39 : decode cX3_copyFrom 39 = .ok (.getfield 18, 3) := by decide +kernel
theorem dX3_copyFrom_42 : decode cX3_copyFrom 42 = .ok (.iconst 0, 1) := by decide +kernel
theorem dX3_copyFrom_43 : decode cX3_copyFrom 43 = .ok (.aload_n 0, 1) := by decide +kernel
theorem dX3_copyFrom_44 : decode cX3_copyFrom 44 = .ok (.getfield 18, 3) := by decide +kernel
theorem dX3_copyFrom_47 : decode cX3_copyFrom 47 = .ok (.iconst 0, 1) := by decide +kernel
theorem dX3_copyFrom_48 : decode cX3_copyFrom 48 = .ok (.bipush 30, 2) := by decide +kernel
theorem dX3_copyFrom_50 : decode cX3_copyFrom 50 = .ok (.invokestatic 43, 3) := by decide +kernel
theorem dX3_copyFrom_53 : decode cX3_copyFrom 53 = .ok (.aload_n 1, 1) := by decide +kernel
theorem dX3_copyFrom_54 : decode cX3_copyFrom 54 = .ok (.getfield 21, 3) := by decide +kernel
theorem dX3_copyFrom_57 : decode cX3_copyFrom 57 = .ok (.iconst 0, 1) := by decide +kernel
theorem dX3_copyFrom_58 : decode cX3_copyFrom 58 = .ok (.aload_n 0, 1) := by decide +kernel
theorem dX3_copyFrom_59 : decode cX3_copyFrom 59 = .ok (.getfield 21, 3) := by decide +kernel
theorem dX3_copyFrom_62 : decode cX3_copyFrom 62 = .ok (.iconst 0, 1) := by decide +kernel
theorem dX3_copyFrom_63 : decode cX3_copyFrom 63 = .ok (.bipush 30, 2) := by decide +kernel
theorem dX3_copyFrom_65 : decode cX3_copyFrom 65 = .ok (.invokestatic 43, 3) := by decide +kernel
theorem dX3_copyFrom_68 : decode cX3_copyFrom 68 = .ok (.aload_n 1, 1) := by decide +kernel
theorem dX3_copyFrom_69 : decode cX3_copyFrom 69 = .ok (.getfield 24, 3) := by decide +kernel
theorem dX3_copyFrom_72 : decode cX3_copyFrom 72 = .ok (.iconst 0, 1) := by decide +kernel
theorem dX3_copyFrom_73 : decode cX3_copyFrom 73 = .ok (.aload_n 0, 1) := by decide +kernel
theorem dX3_copyFrom_74 : decode cX3_copyFrom 74 = .ok (.getfield 24, 3) := by decide +kernel
theorem dX3_copyFrom_77 : decode cX3_copyFrom 77 = .ok (.iconst 0, 1) := by decide +kernel
theorem dX3_copyFrom_78 : decode cX3_copyFrom 78 = .ok (.bipush 30, 2) := by decide +kernel
theorem dX3_copyFrom_80 : decode cX3_copyFrom 80 = .ok (.invokestatic 43, 3) := by decide +kernel
theorem dX3_copyFrom_83 : decode cX3_copyFrom 83 = .ok (.aload_n 1, 1) := by decide +kernel
theorem dX3_copyFrom_84 : decode cX3_copyFrom 84 = .ok (.getfield 27, 3) := by decide +kernel
theorem dX3_copyFrom_87 : decode cX3_copyFrom 87 = .ok (.iconst 0, 1) := by decide +kernel
theorem dX3_copyFrom_88 : decode cX3_copyFrom 88 = .ok (.aload_n 0, 1) := by decide +kernel
theorem dX3_copyFrom_89 : decode cX3_copyFrom 89 = .ok (.getfield 27, 3) := by decide +kernel
theorem dX3_copyFrom_92 : decode cX3_copyFrom 92 = .ok (.iconst 0, 1) := by decide +kernel
theorem dX3_copyFrom_93 : decode cX3_copyFrom 93 = .ok (.bipush 30, 2) := by decide +kernel
theorem dX3_copyFrom_95 : decode cX3_copyFrom 95 = .ok (.invokestatic 43, 3) := by decide +kernel
theorem dX3_copyFrom_98 : decode cX3_copyFrom 98 = .ok (.aload_n 1, 1) := by decide +kernel
theorem dX3_copyFrom_99 : decode cX3_copyFrom 99 = .ok (.getfield 30, 3) := by decide +kernel
theorem dX3_copyFrom_102 : decode cX3_copyFrom 102 = .ok (.iconst 0, 1) := by decide +kernel
theorem dX3_copyFrom_103 : decode cX3_copyFrom 103 = .ok (.aload_n 0, 1) := by decide +kernel
theorem dX3_copyFrom_104 : decode cX3_copyFrom 104 = .ok (.getfield 30, 3) := by decide +kernel
theorem dX3_copyFrom_107 : decode cX3_copyFrom 107 = .ok (.iconst 0, 1) := by decide +kernel
theorem dX3_copyFrom_108 : decode cX3_copyFrom 108 = .ok (.bipush 30, 2) := by decide +kernel
theorem dX3_copyFrom_110 : decode cX3_copyFrom 110 = .ok (.invokestatic 43, 3) := by decide +kernel
theorem dX3_copyFrom_113 : decode cX3_copyFrom 113 = .ok (.aload_n 1, 1) := by decide +kernel
theorem dX3_copyFrom_114 : decode cX3_copyFrom 114 = .ok (.getfield 33, 3) := by decide +kernel
theorem dX3_copyFrom_117 : decode cX3_copyFrom 117 = .ok (.iconst 0, 1) := by decide +kernel
theorem dX3_copyFrom_118 : decode cX3_copyFrom 118 = .ok (.aload_n 0, 1) := by decide +kernel
theorem dX3_copyFrom_119 : decode cX3_copyFrom 119 = .ok (.getfield 33, 3) := by decide +kernel
theorem dX3_copyFrom_122 : decode cX3_copyFrom 122 = .ok (.iconst 0, 1) := by decide +kernel
theorem dX3_copyFrom_123 : decode cX3_copyFrom 123 = .ok (.bipush 30, 2) := by decide +kernel
theorem dX3_copyFrom_125 : decode cX3_copyFrom 125 = .ok (.invokestatic 43, 3) := by decide +kernel
theorem dX3_copyFrom_128 : decode cX3_copyFrom 128 = .ok (.aload_n 1, 1) := by decide +kernel
theorem dX3_copyFrom_129 : decode cX3_copyFrom 129 = .ok (.getfield 36, 3) := by decide +kernel
theorem dX3_copyFrom_132 : decode cX3_copyFrom 132 = .ok (.iconst 0, 1) := by decide +kernel
theorem dX3_copyFrom_133 : decode cX3_copyFrom 133 = .ok (.aload_n 0, 1) := by decide +kernel
theorem dX3_copyFrom_134 : decode cX3_copyFrom 134 = .ok (.getfield 36, 3) := by decide +kernel
theorem dX3_copyFrom_137 : decode cX3_copyFrom 137 = .ok (.iconst 0, 1) := by decide +kernel
theorem dX3_copyFrom_138 : decode cX3_copyFrom 138 = .ok (.bipush 90, 2) := by decide +kernel
theorem dX3_copyFrom_140 : decode cX3_copyFrom 140 = .ok (.invokestatic 43, 3) := by decide +kernel
theorem dX3_copyFrom_143 : decode cX3_copyFrom 143 = .ok (.return_, 1) := by decide +kernel
theorem dX3_has_0 : decode cX3_has 0 = .ok (.iload_n 1, 1) := by decide +kernel
theorem dX3_has_1 : decode cX3_has 1 = .ok (.ifCond .lt 15, 3) := by decide +kernel
theorem dX3_has_4 : decode cX3_has 4 = .ok (.iload_n 1, 1) := by decide +kernel
theorem dX3_has_5 : decode cX3_has 5 = .ok (.aload_n 0, 1) := by decide +kernel
theorem dX3_has_6 : decode cX3_has 6 = .ok (.getfield 39, 3) := by decide +kernel
theorem dX3_has_9 : decode cX3_has 9 = .ok (.if_icmp .ge 7, 3) := by decide +kernel
theorem dX3_has_12 : decode cX3_has 12 = .ok (.iconst 1, 1) := by decide +kernel
theorem dX3_has_13 : decode cX3_has 13 = .ok (.goto 4, 3) := by decide +kernel
theorem dX3_has_16 : decode cX3_has 16 = .ok (.iconst 0, 1) := by decide +kernel
theorem dX3_has_17 : decode cX3_has 17 = .ok (.ireturn, 1) := by decide +kernel
theorem dX3_enter_0 : decode cX3_enter 0 = .ok (.aload_n 0, 1) := by decide +kernel
theorem dX3_enter_1 : decode cX3_enter 1 = .ok (.getfield 39, 3) := by decide +kernel
theorem dX3_enter_4 : decode cX3_enter 4 = .ok (.bipush 30, 2) := by decide +kernel
theorem dX3_enter_6 : decode cX3_enter 6 = .ok (.if_icmp .lt 5, 3) := by decide +kernel
theorem dX3_enter_9 : decode cX3_enter 9 = .ok (.iconst (-1), 1) := by decide +kernel
theorem dX3_enter_10 : decode cX3_enter 10 = .ok (.ireturn, 1) := by decide +kernel
theorem dX3_enter_11 : decode cX3_enter 11 = .ok (.aload_n 0, 1) := by decide +kernel
theorem dX3_enter_12 : decode cX3_enter 12 = .ok (.getfield 9, 3) := by decide +kernel
theorem dX3_enter_15 : decode cX3_enter 15 = .ok (.aload_n 0, 1) := by decide +kernel
theorem dX3_enter_16 : decode cX3_enter 16 = .ok (.getfield 39, 3) := by decide +kernel
theorem dX3_enter_19 : decode cX3_enter 19 = .ok (.iload_n 1, 1) := by decide +kernel
theorem dX3_enter_20 : decode cX3_enter 20 = .ok (.iastore, 1) := by decide +kernel
theorem dX3_enter_21 : decode cX3_enter 21 = .ok (.aload_n 0, 1) := by decide +kernel
theorem dX3_enter_22 : decode cX3_enter 22 = .ok (.getfield 15, 3) := by decide +kernel
theorem dX3_enter_25 : decode cX3_enter 25 = .ok (.aload_n 0, 1) := by decide +kernel
theorem dX3_enter_26 : decode cX3_enter 26 = .ok (.getfield 39, 3) := by decide +kernel
theorem dX3_enter_29 : decode cX3_enter 29 = .ok (.iload_n 2, 1) := by decide +kernel
theorem dX3_enter_30 : decode cX3_enter 30 = .ok (.iastore, 1) := by decide +kernel
theorem dX3_enter_31 : decode cX3_enter 31 = .ok (.aload_n 0, 1) := by decide +kernel
theorem dX3_enter_32 : decode cX3_enter 32 = .ok (.getfield 18, 3) := by decide +kernel
theorem dX3_enter_35 : decode cX3_enter 35 = .ok (.aload_n 0, 1) := by decide +kernel
theorem dX3_enter_36 : decode cX3_enter 36 = .ok (.getfield 39, 3) := by decide +kernel
theorem dX3_enter_39 : decode cX3_enter 39 = .ok (.iload_n 3, 1) := by decide +kernel
theorem dX3_enter_40 : decode cX3_enter 40 = .ok (.iastore, 1) := by decide +kernel
theorem dX3_enter_41 : decode cX3_enter 41 = .ok (.aload_n 0, 1) := by decide +kernel
theorem dX3_enter_42 : decode cX3_enter 42 = .ok (.getfield 21, 3) := by decide +kernel
theorem dX3_enter_45 : decode cX3_enter 45 = .ok (.aload_n 0, 1) := by decide +kernel
theorem dX3_enter_46 : decode cX3_enter 46 = .ok (.getfield 39, 3) := by decide +kernel
theorem dX3_enter_49 : decode cX3_enter 49 = .ok (.iload 4, 2) := by decide +kernel
theorem dX3_enter_51 : decode cX3_enter 51 = .ok (.iastore, 1) := by decide +kernel
theorem dX3_enter_52 : decode cX3_enter 52 = .ok (.aload_n 0, 1) := by decide +kernel
theorem dX3_enter_53 : decode cX3_enter 53 = .ok (.getfield 24, 3) := by decide +kernel
theorem dX3_enter_56 : decode cX3_enter 56 = .ok (.aload_n 0, 1) := by decide +kernel
theorem dX3_enter_57 : decode cX3_enter 57 = .ok (.getfield 39, 3) := by decide +kernel
theorem dX3_enter_60 : decode cX3_enter 60 = .ok (.iconst 0, 1) := by decide +kernel
theorem dX3_enter_61 : decode cX3_enter 61 = .ok (.iastore, 1) := by decide +kernel
theorem dX3_enter_62 : decode cX3_enter 62 = .ok (.aload_n 0, 1) := by decide +kernel
theorem dX3_enter_63 : decode cX3_enter 63 = .ok (.getfield 30, 3) := by decide +kernel
theorem dX3_enter_66 : decode cX3_enter 66 = .ok (.aload_n 0, 1) := by decide +kernel
theorem dX3_enter_67 : decode cX3_enter 67 = .ok (.getfield 39, 3) := by decide +kernel
theorem dX3_enter_70 : decode cX3_enter 70 = .ok (.iconst 0, 1) := by decide +kernel
theorem dX3_enter_71 : decode cX3_enter 71 = .ok (.iastore, 1) := by decide +kernel
theorem dX3_enter_72 : decode cX3_enter 72 = .ok (.aload_n 0, 1) := by decide +kernel
theorem dX3_enter_73 : decode cX3_enter 73 = .ok (.dup, 1) := by decide +kernel
theorem dX3_enter_74 : decode cX3_enter 74 = .ok (.getfield 39, 3) := by decide +kernel
theorem dX3_enter_77 : decode cX3_enter 77 = .ok (.iconst 1, 1) := by decide +kernel
theorem dX3_enter_78 : decode cX3_enter 78 = .ok (.iadd, 1) := by decide +kernel
theorem dX3_enter_79 : decode cX3_enter 79 = .ok (.putfield 39, 3) := by decide +kernel
theorem dX3_enter_82 : decode cX3_enter 82 = .ok (.aload_n 0, 1) := by decide +kernel
theorem dX3_enter_83 : decode cX3_enter 83 = .ok (.aload_n 0, 1) := by decide +kernel
theorem dX3_enter_84 : decode cX3_enter 84 = .ok (.getfield 39, 3) := by decide +kernel
theorem dX3_enter_87 : decode cX3_enter 87 = .ok (.iconst 1, 1) := by decide +kernel
theorem dX3_enter_88 : decode cX3_enter 88 = .ok (.isub, 1) := by decide +kernel
theorem dX3_enter_89 : decode cX3_enter 89 = .ok (.iconst (-1), 1) := by decide +kernel
theorem dX3_enter_90 : decode cX3_enter 90 = .ok (.iconst (-1), 1) := by decide +kernel
theorem dX3_enter_91 : decode cX3_enter 91 = .ok (.iconst (-1), 1) := by decide +kernel
theorem dX3_enter_92 : decode cX3_enter 92 = .ok (.invokevirtual 49, 3) := by decide +kernel
theorem dX3_enter_95 : decode cX3_enter 95 = .ok (.aload_n 0, 1) := by decide +kernel
theorem dX3_enter_96 : decode cX3_enter 96 = .ok (.getfield 39, 3) := by decide +kernel
theorem dX3_enter_99 : decode cX3_enter 99 = .ok (.iconst 1, 1) := by decide +kernel
theorem dX3_enter_100 : decode cX3_enter 100 = .ok (.isub, 1) := by decide +kernel
theorem dX3_enter_101 : decode cX3_enter 101 = .ok (.ireturn, 1) := by decide +kernel
theorem dX3_isListed_0 : decode cX3_isListed 0 = .ok (.aload_n 0, 1) := by decide +kernel
theorem dX3_isListed_1 : decode cX3_isListed 1 = .ok (.getfield 24, 3) := by decide +kernel
theorem dX3_isListed_4 : decode cX3_isListed 4 = .ok (.iload_n 1, 1) := by decide +kernel
theorem dX3_isListed_5 : decode cX3_isListed 5 = .ok (.iaload, 1) := by decide +kernel
theorem dX3_isListed_6 : decode cX3_isListed 6 = .ok (.ifCond .ne 7, 3) := by decide +kernel
theorem dX3_isListed_9 : decode cX3_isListed 9 = .ok (.iconst 1, 1) := by decide +kernel
theorem dX3_isListed_10 : decode cX3_isListed 10 = .ok (.goto 4, 3) := by decide +kernel
theorem dX3_isListed_13 : decode cX3_isListed 13 = .ok (.iconst 0, 1) := by decide +kernel
theorem dX3_isListed_14 : decode cX3_isListed 14 = .ok (.ireturn, 1) := by decide +kernel
theorem dX3_end_0 : decode cX3_end 0 = .ok (.aload_n 0, 1) := by decide +kernel
theorem dX3_end_1 : decode cX3_end 1 = .ok (.getfield 18, 3) := by decide +kernel
theorem dX3_end_4 : decode cX3_end 4 = .ok (.iload_n 1, 1) := by decide +kernel
theorem dX3_end_5 : decode cX3_end 5 = .ok (.iaload, 1) := by decide +kernel
theorem dX3_end_6 : decode cX3_end 6 = .ok (.aload_n 0, 1) := by decide +kernel
theorem dX3_end_7 : decode cX3_end 7 = .ok (.getfield 21, 3) := by decide +kernel
theorem dX3_end_10 : decode cX3_end 10 = .ok (.iload_n 1, 1) := by decide +kernel
theorem dX3_end_11 : decode cX3_end 11 = .ok (.iaload, 1) := by decide +kernel
theorem dX3_end_12 : decode cX3_end 12 = .ok (.iadd, 1) := by decide +kernel
theorem dX3_end_13 : decode cX3_end 13 = .ok (.ireturn, 1) := by decide +kernel
theorem dX3_member_0 : decode cX3_member 0 = .ok (.iload_n 1, 1) := by decide +kernel
theorem dX3_member_1 : decode cX3_member 1 = .ok (.ifCond .lt 20, 3) := by decide +kernel
theorem dX3_member_4 : decode cX3_member 4 = .ok (.iload_n 1, 1) := by decide +kernel
theorem dX3_member_5 : decode cX3_member 5 = .ok (.aload_n 0, 1) := by decide +kernel
theorem dX3_member_6 : decode cX3_member 6 = .ok (.getfield 39, 3) := by decide +kernel
theorem dX3_member_9 : decode cX3_member 9 = .ok (.if_icmp .ge 12, 3) := by decide +kernel
theorem dX3_member_12 : decode cX3_member 12 = .ok (.iload_n 2, 1) := by decide +kernel
theorem dX3_member_13 : decode cX3_member 13 = .ok (.ifCond .lt 8, 3) := by decide +kernel
theorem dX3_member_16 : decode cX3_member 16 = .ok (.iload_n 2, 1) := by decide +kernel
theorem dX3_member_17 : decode cX3_member 17 = .ok (.iconst 3, 1) := by decide +kernel
theorem dX3_member_18 : decode cX3_member 18 = .ok (.if_icmp .lt 5, 3) := by decide +kernel
theorem dX3_member_21 : decode cX3_member 21 = .ok (.iconst (-1), 1) := by decide +kernel
theorem dX3_member_22 : decode cX3_member 22 = .ok (.ireturn, 1) := by decide +kernel
theorem dX3_member_23 : decode cX3_member 23 = .ok (.aload_n 0, 1) := by decide +kernel
theorem dX3_member_24 : decode cX3_member 24 = .ok (.getfield 36, 3) := by decide +kernel
theorem dX3_member_27 : decode cX3_member 27 = .ok (.iload_n 1, 1) := by decide +kernel
theorem dX3_member_28 : decode cX3_member 28 = .ok (.iconst 3, 1) := by decide +kernel
theorem dX3_member_29 : decode cX3_member 29 = .ok (.imul, 1) := by decide +kernel
theorem dX3_member_30 : decode cX3_member 30 = .ok (.iload_n 2, 1) := by decide +kernel
theorem dX3_member_31 : decode cX3_member 31 = .ok (.iadd, 1) := by decide +kernel
theorem dX3_member_32 : decode cX3_member 32 = .ok (.iaload, 1) := by decide +kernel
theorem dX3_member_33 : decode cX3_member 33 = .ok (.ireturn, 1) := by decide +kernel
theorem dX3_holds_0 : decode cX3_holds 0 = .ok (.aload_n 0, 1) := by decide +kernel
theorem dX3_holds_1 : decode cX3_holds 1 = .ok (.getfield 33, 3) := by decide +kernel
theorem dX3_holds_4 : decode cX3_holds 4 = .ok (.iload_n 1, 1) := by decide +kernel
theorem dX3_holds_5 : decode cX3_holds 5 = .ok (.iaload, 1) := by decide +kernel
theorem dX3_holds_6 : decode cX3_holds 6 = .ok (.iload_n 2, 1) := by decide +kernel
theorem dX3_holds_7 : decode cX3_holds 7 = .ok (.invokestatic 53, 3) := by decide +kernel
theorem dX3_holds_10 : decode cX3_holds 10 = .ok (.iand, 1) := by decide +kernel
theorem dX3_holds_11 : decode cX3_holds 11 = .ok (.ifCond .eq 7, 3) := by decide +kernel
theorem dX3_holds_14 : decode cX3_holds 14 = .ok (.iconst 1, 1) := by decide +kernel
theorem dX3_holds_15 : decode cX3_holds 15 = .ok (.goto 4, 3) := by decide +kernel
theorem dX3_holds_18 : decode cX3_holds 18 = .ok (.iconst 0, 1) := by decide +kernel
theorem dX3_holds_19 : decode cX3_holds 19 = .ok (.ireturn, 1) := by decide +kernel
theorem dX3_giveChain_0 : decode cX3_giveChain 0 = .ok (.aload_n 0, 1) := by decide +kernel
theorem dX3_giveChain_1 : decode cX3_giveChain 1 = .ok (.iload_n 1, 1) := by decide +kernel
theorem dX3_giveChain_2 : decode cX3_giveChain 2 = .ok (.invokevirtual 57, 3) := by decide +kernel
theorem dX3_giveChain_5 : decode cX3_giveChain 5 = .ok (.ifCond .ne 4, 3) := by decide +kernel
theorem dX3_giveChain_8 : decode cX3_giveChain 8 = .ok (.return_, 1) := by decide +kernel
theorem dX3_giveChain_9 : decode cX3_giveChain 9 = .ok (.aload_n 0, 1) := by decide +kernel
theorem dX3_giveChain_10 : decode cX3_giveChain 10 = .ok (.getfield 36, 3) := by decide +kernel
theorem dX3_giveChain_13 : decode cX3_giveChain 13 = .ok (.iload_n 1, 1) := by decide +kernel
theorem dX3_giveChain_14 : decode cX3_giveChain 14 = .ok (.iconst 3, 1) := by decide +kernel
theorem dX3_giveChain_15 : decode cX3_giveChain 15 = .ok (.imul, 1) := by decide +kernel
theorem dX3_giveChain_16 : decode cX3_giveChain 16 = .ok (.iload_n 2, 1) := by decide +kernel
theorem dX3_giveChain_17 : decode cX3_giveChain 17 = .ok (.iastore, 1) := by decide +kernel
theorem dX3_giveChain_18 : decode cX3_giveChain 18 = .ok (.aload_n 0, 1) := by decide +kernel
theorem dX3_giveChain_19 : decode cX3_giveChain 19 = .ok (.getfield 36, 3) := by decide +kernel
theorem dX3_giveChain_22 : decode cX3_giveChain 22 = .ok (.iload_n 1, 1) := by decide +kernel
theorem dX3_giveChain_23 : decode cX3_giveChain 23 = .ok (.iconst 3, 1) := by decide +kernel
theorem dX3_giveChain_24 : decode cX3_giveChain 24 = .ok (.imul, 1) := by decide +kernel
theorem dX3_giveChain_25 : decode cX3_giveChain 25 = .ok (.iconst 1, 1) := by decide +kernel
theorem dX3_giveChain_26 : decode cX3_giveChain 26 = .ok (.iadd, 1) := by decide +kernel
theorem dX3_giveChain_27 : decode cX3_giveChain 27 = .ok (.iload_n 3, 1) := by decide +kernel
theorem dX3_giveChain_28 : decode cX3_giveChain 28 = .ok (.iastore, 1) := by decide +kernel
theorem dX3_giveChain_29 : decode cX3_giveChain 29 = .ok (.aload_n 0, 1) := by decide +kernel
theorem dX3_giveChain_30 : decode cX3_giveChain 30 = .ok (.getfield 36, 3) := by decide +kernel
theorem dX3_giveChain_33 : decode cX3_giveChain 33 = .ok (.iload_n 1, 1) := by decide +kernel
theorem dX3_giveChain_34 : decode cX3_giveChain 34 = .ok (.iconst 3, 1) := by decide +kernel
theorem dX3_giveChain_35 : decode cX3_giveChain 35 = .ok (.imul, 1) := by decide +kernel
theorem dX3_giveChain_36 : decode cX3_giveChain 36 = .ok (.iconst 2, 1) := by decide +kernel
theorem dX3_giveChain_37 : decode cX3_giveChain 37 = .ok (.iadd, 1) := by decide +kernel
theorem dX3_giveChain_38 : decode cX3_giveChain 38 = .ok (.iload 4, 2) := by decide +kernel
theorem dX3_giveChain_40 : decode cX3_giveChain 40 = .ok (.iastore, 1) := by decide +kernel
theorem dX3_giveChain_41 : decode cX3_giveChain 41 = .ok (.aload_n 0, 1) := by decide +kernel
theorem dX3_giveChain_42 : decode cX3_giveChain 42 = .ok (.getfield 33, 3) := by decide +kernel
theorem dX3_giveChain_45 : decode cX3_giveChain 45 = .ok (.iload_n 1, 1) := by decide +kernel
theorem dX3_giveChain_46 : decode cX3_giveChain 46 = .ok (.iload_n 2, 1) := by decide +kernel
theorem dX3_giveChain_47 : decode cX3_giveChain 47 = .ok (.iload_n 3, 1) := by decide +kernel
theorem dX3_giveChain_48 : decode cX3_giveChain 48 = .ok (.iload 4, 2) := by decide +kernel
theorem dX3_giveChain_50 : decode cX3_giveChain 50 = .ok (.invokestatic 61, 3) := by decide +kernel
theorem dX3_giveChain_53 : decode cX3_giveChain 53 = .ok (.iastore, 1) := by decide +kernel
theorem dX3_giveChain_54 : decode cX3_giveChain 54 = .ok (.aload_n 0, 1) := by decide +kernel
theorem dX3_giveChain_55 : decode cX3_giveChain 55 = .ok (.getfield 27, 3) := by decide +kernel
theorem dX3_giveChain_58 : decode cX3_giveChain 58 = .ok (.iload_n 1, 1) := by decide +kernel
theorem dX3_giveChain_59 : decode cX3_giveChain 59 = .ok (.aload_n 0, 1) := by decide +kernel
theorem dX3_giveChain_60 : decode cX3_giveChain 60 = .ok (.getfield 33, 3) := by decide +kernel
theorem dX3_giveChain_63 : decode cX3_giveChain 63 = .ok (.iload_n 1, 1) := by decide +kernel
theorem dX3_giveChain_64 : decode cX3_giveChain 64 = .ok (.iaload, 1) := by decide +kernel
theorem dX3_giveChain_65 : decode cX3_giveChain 65 = .ok (.invokestatic 65, 3) := by decide +kernel
theorem dX3_giveChain_68 : decode cX3_giveChain 68 = .ok (.iastore, 1) := by decide +kernel
theorem dX3_giveChain_69 : decode cX3_giveChain 69 = .ok (.return_, 1) := by decide +kernel
theorem dX3_listedAndClashing_0 : decode cX3_listedAndClashing 0 = .ok (.iload_n 1, 1) := by decide +kernel
theorem dX3_listedAndClashing_1 : decode cX3_listedAndClashing 1 = .ok (.iload_n 2, 1) := by decide +kernel
theorem dX3_listedAndClashing_2 : decode cX3_listedAndClashing 2 = .ok (.if_icmp .eq 43, 3) := by decide +kernel
theorem dX3_listedAndClashing_5 : decode cX3_listedAndClashing 5 = .ok (.aload_n 0, 1) := by decide +kernel
theorem dX3_listedAndClashing_6 : decode cX3_listedAndClashing 6 = .ok (.iload_n 1, 1) := by decide +kernel
theorem dX3_listedAndClashing_7 : decode cX3_listedAndClashing 7 = .ok (.invokevirtual 70, 3) := by decide +kernel
theorem dX3_listedAndClashing_10 : decode cX3_listedAndClashing 10 = .ok (.ifCond .eq 35, 3) := by decide +kernel
theorem dX3_listedAndClashing_13 : decode cX3_listedAndClashing 13 = .ok (.aload_n 0, 1) := by decide +kernel
theorem dX3_listedAndClashing_14 : decode cX3_listedAndClashing 14 = .ok (.getfield 18, 3) := by decide +kernel
theorem dX3_listedAndClashing_17 : decode cX3_listedAndClashing 17 = .ok (.iload_n 1, 1) := by decide +kernel
theorem dX3_listedAndClashing_18 : decode cX3_listedAndClashing 18 = .ok (.iaload, 1) := by decide +kernel
theorem dX3_listedAndClashing_19 : decode cX3_listedAndClashing 19 = .ok (.aload_n 0, 1) := by decide +kernel
theorem dX3_listedAndClashing_20 : decode cX3_listedAndClashing 20 = .ok (.iload_n 2, 1) := by decide +kernel
theorem dX3_listedAndClashing_21 : decode cX3_listedAndClashing 21 = .ok (.invokevirtual 73, 3) := by decide +kernel
theorem dX3_listedAndClashing_24 : decode cX3_listedAndClashing 24 = .ok (.if_icmp .ge 21, 3) := by decide +kernel
theorem dX3_listedAndClashing_27 : decode cX3_listedAndClashing 27 = .ok (.aload_n 0, 1) := by decide +kernel
theorem dX3_listedAndClashing_28 : decode cX3_listedAndClashing 28 = .ok (.getfield 18, 3) := by decide +kernel
theorem dX3_listedAndClashing_31 : decode cX3_listedAndClashing 31 = .ok (.iload_n 2, 1) := by decide +kernel
theorem dX3_listedAndClashing_32 : decode cX3_listedAndClashing 32 = .ok (.iaload, 1) := by decide +kernel
theorem dX3_listedAndClashing_33 : decode cX3_listedAndClashing 33 = .ok (.aload_n 0, 1) := by decide +kernel
theorem dX3_listedAndClashing_34 : decode cX3_listedAndClashing 34 = .ok (.iload_n 1, 1) := by decide +kernel
theorem dX3_listedAndClashing_35 : decode cX3_listedAndClashing 35 = .ok (.invokevirtual 73, 3) := by decide +kernel
theorem dX3_listedAndClashing_38 : decode cX3_listedAndClashing 38 = .ok (.if_icmp .ge 7, 3) := by decide +kernel
theorem dX3_listedAndClashing_41 : decode cX3_listedAndClashing 41 = .ok (.iconst 1, 1) := by decide +kernel
theorem dX3_listedAndClashing_42 : decode cX3_listedAndClashing 42 = .ok (.goto 4, 3) := by decide +kernel
theorem dX3_listedAndClashing_45 : decode cX3_listedAndClashing 45 = .ok (.iconst 0, 1) := by decide +kernel
theorem dX3_listedAndClashing_46 : decode cX3_listedAndClashing 46 = .ok (.ireturn, 1) := by decide +kernel
theorem dX3_busyFor_0 : decode cX3_busyFor 0 = .ok (.iconst 0, 1) := by decide +kernel
theorem dX3_busyFor_1 : decode cX3_busyFor 1 = .ok (.istore_n 2, 1) := by decide +kernel
theorem dX3_busyFor_2 : decode cX3_busyFor 2 = .ok (.iconst 0, 1) := by decide +kernel
theorem dX3_busyFor_3 : decode cX3_busyFor 3 = .ok (.istore_n 3, 1) := by decide +kernel
theorem dX3_busyFor_4 : decode cX3_busyFor 4 = .ok (.iload_n 3, 1) := by decide +kernel
theorem dX3_busyFor_5 : decode cX3_busyFor 5 = .ok (.aload_n 0, 1) := by decide +kernel
theorem dX3_busyFor_6 : decode cX3_busyFor 6 = .ok (.getfield 39, 3) := by decide +kernel
theorem dX3_busyFor_9 : decode cX3_busyFor 9 = .ok (.if_icmp .ge 27, 3) := by decide +kernel
theorem dX3_busyFor_12 : decode cX3_busyFor 12 = .ok (.aload_n 0, 1) := by decide +kernel
theorem dX3_busyFor_13 : decode cX3_busyFor 13 = .ok (.iload_n 3, 1) := by decide +kernel
theorem dX3_busyFor_14 : decode cX3_busyFor 14 = .ok (.iload_n 1, 1) := by decide +kernel
theorem dX3_busyFor_15 : decode cX3_busyFor 15 = .ok (.invokevirtual 76, 3) := by decide +kernel
theorem dX3_busyFor_18 : decode cX3_busyFor 18 = .ok (.ifCond .eq 12, 3) := by decide +kernel
theorem dX3_busyFor_21 : decode cX3_busyFor 21 = .ok (.iload_n 2, 1) := by decide +kernel
theorem dX3_busyFor_22 : decode cX3_busyFor 22 = .ok (.aload_n 0, 1) := by decide +kernel
theorem dX3_busyFor_23 : decode cX3_busyFor 23 = .ok (.getfield 33, 3) := by decide +kernel
theorem dX3_busyFor_26 : decode cX3_busyFor 26 = .ok (.iload_n 3, 1) := by decide +kernel
theorem dX3_busyFor_27 : decode cX3_busyFor 27 = .ok (.iaload, 1) := by decide +kernel
theorem dX3_busyFor_28 : decode cX3_busyFor 28 = .ok (.ior, 1) := by decide +kernel
theorem dX3_busyFor_29 : decode cX3_busyFor 29 = .ok (.istore_n 2, 1) := by decide +kernel
theorem dX3_busyFor_30 : decode cX3_busyFor 30 = .ok (.iinc 3 1, 3) := by decide +kernel
theorem dX3_busyFor_33 : decode cX3_busyFor 33 = .ok (.goto (-29), 3) := by decide +kernel
theorem dX3_busyFor_36 : decode cX3_busyFor 36 = .ok (.iload_n 2, 1) := by decide +kernel
theorem dX3_busyFor_37 : decode cX3_busyFor 37 = .ok (.ireturn, 1) := by decide +kernel
theorem dX3_clashesOf_0 : decode cX3_clashesOf 0 = .ok (.iconst 0, 1) := by decide +kernel
theorem dX3_clashesOf_1 : decode cX3_clashesOf 1 = .ok (.istore_n 2, 1) := by decide +kernel
theorem dX3_clashesOf_2 : decode cX3_clashesOf 2 = .ok (.iconst 0, 1) := by decide +kernel
theorem dX3_clashesOf_3 : decode cX3_clashesOf 3 = .ok (.istore_n 3, 1) := by decide +kernel
theorem dX3_clashesOf_4 : decode cX3_clashesOf 4 = .ok (.iload_n 3, 1) := by decide +kernel
theorem dX3_clashesOf_5 : decode cX3_clashesOf 5 = .ok (.aload_n 0, 1) := by decide +kernel
theorem dX3_clashesOf_6 : decode cX3_clashesOf 6 = .ok (.getfield 39, 3) := by decide +kernel
theorem dX3_clashesOf_9 : decode cX3_clashesOf 9 = .ok (.if_icmp .ge 21, 3) := by decide +kernel
theorem dX3_clashesOf_12 : decode cX3_clashesOf 12 = .ok (.aload_n 0, 1) := by decide +kernel
theorem dX3_clashesOf_13 : decode cX3_clashesOf 13 = .ok (.iload_n 3, 1) := by decide +kernel
theorem dX3_clashesOf_14 : decode cX3_clashesOf 14 = .ok (.iload_n 1, 1) := by decide +kernel
theorem dX3_clashesOf_15 : decode cX3_clashesOf 15 = .ok (.invokevirtual 76, 3) := by decide +kernel
theorem dX3_clashesOf_18 : decode cX3_clashesOf 18 = .ok (.ifCond .eq 6, 3) := by decide +kernel
theorem dX3_clashesOf_21 : decode cX3_clashesOf 21 = .ok (.iinc 2 1, 3) := by decide +kernel
theorem dX3_clashesOf_24 : decode cX3_clashesOf 24 = .ok (.iinc 3 1, 3) := by decide +kernel
theorem dX3_clashesOf_27 : decode cX3_clashesOf 27 = .ok (.goto (-23), 3) := by decide +kernel
theorem dX3_clashesOf_30 : decode cX3_clashesOf 30 = .ok (.iload_n 2, 1) := by decide +kernel
theorem dX3_clashesOf_31 : decode cX3_clashesOf 31 = .ok (.ireturn, 1) := by decide +kernel
theorem dX3_listedWith_0 : decode cX3_listedWith 0 = .ok (.iconst 0, 1) := by decide +kernel
theorem dX3_listedWith_1 : decode cX3_listedWith 1 = .ok (.istore_n 2, 1) := by decide +kernel
theorem dX3_listedWith_2 : decode cX3_listedWith 2 = .ok (.iconst 0, 1) := by decide +kernel
theorem dX3_listedWith_3 : decode cX3_listedWith 3 = .ok (.istore_n 3, 1) := by decide +kernel
theorem dX3_listedWith_4 : decode cX3_listedWith 4 = .ok (.iload_n 3, 1) := by decide +kernel
theorem dX3_listedWith_5 : decode cX3_listedWith 5 = .ok (.aload_n 0, 1) := by decide +kernel
theorem dX3_listedWith_6 : decode cX3_listedWith 6 = .ok (.getfield 39, 3) := by decide +kernel
theorem dX3_listedWith_9 : decode cX3_listedWith 9 = .ok (.if_icmp .ge 29, 3) := by decide +kernel
theorem dX3_listedWith_12 : decode cX3_listedWith 12 = .ok (.aload_n 0, 1) := by decide +kernel
theorem dX3_listedWith_13 : decode cX3_listedWith 13 = .ok (.iload_n 3, 1) := by decide +kernel
theorem dX3_listedWith_14 : decode cX3_listedWith 14 = .ok (.invokevirtual 70, 3) := by decide +kernel
theorem dX3_listedWith_17 : decode cX3_listedWith 17 = .ok (.ifCond .eq 15, 3) := by decide +kernel
theorem dX3_listedWith_20 : decode cX3_listedWith 20 = .ok (.aload_n 0, 1) := by decide +kernel
theorem dX3_listedWith_21 : decode cX3_listedWith 21 = .ok (.iload_n 3, 1) := by decide +kernel
theorem dX3_listedWith_22 : decode cX3_listedWith 22 = .ok (.iload_n 1, 1) := by decide +kernel
theorem dX3_listedWith_23 : decode cX3_listedWith 23 = .ok (.invokevirtual 80, 3) := by decide +kernel
theorem dX3_listedWith_26 : decode cX3_listedWith 26 = .ok (.ifCond .eq 6, 3) := by decide +kernel
theorem dX3_listedWith_29 : decode cX3_listedWith 29 = .ok (.iinc 2 1, 3) := by decide +kernel
theorem dX3_listedWith_32 : decode cX3_listedWith 32 = .ok (.iinc 3 1, 3) := by decide +kernel
theorem dX3_listedWith_35 : decode cX3_listedWith 35 = .ok (.goto (-31), 3) := by decide +kernel
theorem dX3_listedWith_38 : decode cX3_listedWith 38 = .ok (.iload_n 2, 1) := by decide +kernel
theorem dX3_listedWith_39 : decode cX3_listedWith 39 = .ok (.ireturn, 1) := by decide +kernel
theorem dX3_countStage_0 : decode cX3_countStage 0 = .ok (.iconst 0, 1) := by decide +kernel
theorem dX3_countStage_1 : decode cX3_countStage 1 = .ok (.istore_n 2, 1) := by decide +kernel
theorem dX3_countStage_2 : decode cX3_countStage 2 = .ok (.iconst 0, 1) := by decide +kernel
theorem dX3_countStage_3 : decode cX3_countStage 3 = .ok (.istore_n 3, 1) := by decide +kernel
theorem dX3_countStage_4 : decode cX3_countStage 4 = .ok (.iload_n 3, 1) := by decide +kernel
theorem dX3_countStage_5 : decode cX3_countStage 5 = .ok (.aload_n 0, 1) := by decide +kernel
theorem dX3_countStage_6 : decode cX3_countStage 6 = .ok (.getfield 39, 3) := by decide +kernel
theorem dX3_countStage_9 : decode cX3_countStage 9 = .ok (.if_icmp .ge 22, 3) := by decide +kernel
theorem dX3_countStage_12 : decode cX3_countStage 12 = .ok (.aload_n 0, 1) := by decide +kernel
theorem dX3_countStage_13 : decode cX3_countStage 13 = .ok (.getfield 24, 3) := by decide +kernel
theorem dX3_countStage_16 : decode cX3_countStage 16 = .ok (.iload_n 3, 1) := by decide +kernel
theorem dX3_countStage_17 : decode cX3_countStage 17 = .ok (.iaload, 1) := by decide +kernel
theorem dX3_countStage_18 : decode cX3_countStage 18 = .ok (.iload_n 1, 1) := by decide +kernel
theorem dX3_countStage_19 : decode cX3_countStage 19 = .ok (.if_icmp .ne 6, 3) := by decide +kernel
theorem dX3_countStage_22 : decode cX3_countStage 22 = .ok (.iinc 2 1, 3) := by decide +kernel
theorem dX3_countStage_25 : decode cX3_countStage 25 = .ok (.iinc 3 1, 3) := by decide +kernel
theorem dX3_countStage_28 : decode cX3_countStage 28 = .ok (.goto (-24), 3) := by decide +kernel
theorem dX3_countStage_31 : decode cX3_countStage 31 = .ok (.iload_n 2, 1) := by decide +kernel
theorem dX3_countStage_32 : decode cX3_countStage 32 = .ok (.ireturn, 1) := by decide +kernel
theorem dX3_countListedManned_0 : decode cX3_countListedManned 0 = .ok (.iconst 0, 1) := by decide +kernel
theorem dX3_countListedManned_1 : decode cX3_countListedManned 1 = .ok (.istore_n 1, 1) := by decide +kernel
theorem dX3_countListedManned_2 : decode cX3_countListedManned 2 = .ok (.iconst 0, 1) := by decide +kernel
theorem dX3_countListedManned_3 : decode cX3_countListedManned 3 = .ok (.istore_n 2, 1) := by decide +kernel
theorem dX3_countListedManned_4 : decode cX3_countListedManned 4 = .ok (.iload_n 2, 1) := by decide +kernel
theorem dX3_countListedManned_5 : decode cX3_countListedManned 5 = .ok (.aload_n 0, 1) := by decide +kernel
theorem dX3_countListedManned_6 : decode cX3_countListedManned 6 = .ok (.getfield 39, 3) := by decide +kernel
theorem dX3_countListedManned_9 : decode cX3_countListedManned 9 = .ok (.if_icmp .ge 29, 3) := by decide +kernel
theorem dX3_countListedManned_12 : decode cX3_countListedManned 12 = .ok (.aload_n 0, 1) := by decide +kernel
theorem dX3_countListedManned_13 : decode cX3_countListedManned 13 = .ok (.iload_n 2, 1) := by decide +kernel
theorem dX3_countListedManned_14 : decode cX3_countListedManned 14 = .ok (.invokevirtual 70, 3) := by decide +kernel
theorem dX3_countListedManned_17 : decode cX3_countListedManned 17 = .ok (.ifCond .eq 15, 3) := by decide +kernel
theorem dX3_countListedManned_20 : decode cX3_countListedManned 20 = .ok (.aload_n 0, 1) := by decide +kernel
theorem dX3_countListedManned_21 : decode cX3_countListedManned 21 = .ok (.getfield 27, 3) := by decide +kernel
theorem dX3_countListedManned_24 : decode cX3_countListedManned 24 = .ok (.iload_n 2, 1) := by decide +kernel
theorem dX3_countListedManned_25 : decode cX3_countListedManned 25 = .ok (.iaload, 1) := by decide +kernel
theorem dX3_countListedManned_26 : decode cX3_countListedManned 26 = .ok (.ifCond .le 6, 3) := by decide +kernel
theorem dX3_countListedManned_29 : decode cX3_countListedManned 29 = .ok (.iinc 1 1, 3) := by decide +kernel
theorem dX3_countListedManned_32 : decode cX3_countListedManned 32 = .ok (.iinc 2 1, 3) := by decide +kernel
theorem dX3_countListedManned_35 : decode cX3_countListedManned 35 = .ok (.goto (-31), 3) := by decide +kernel
theorem dX3_countListedManned_38 : decode cX3_countListedManned 38 = .ok (.iload_n 1, 1) := by decide +kernel
theorem dX3_countListedManned_39 : decode cX3_countListedManned 39 = .ok (.ireturn, 1) := by decide +kernel
theorem dX4_init_0 : decode cX4_init 0 = .ok (.aload_n 0, 1) := by decide +kernel
theorem dX4_init_1 : decode cX4_init 1 = .ok (.invokespecial 3, 3) := by decide +kernel
theorem dX4_init_4 : decode cX4_init 4 = .ok (.aload_n 0, 1) := by decide +kernel
theorem dX4_init_5 : decode cX4_init 5 = .ok (.bipush 6, 2) := by decide +kernel
theorem dX4_init_7 : decode cX4_init 7 = .ok (.anewarray 9, 3) := by decide +kernel
theorem dX4_init_10 : decode cX4_init 10 = .ok (.putfield 11, 3) := by decide +kernel
theorem dX4_init_13 : decode cX4_init 13 = .ok (.iconst 0, 1) := by decide +kernel
theorem dX4_init_14 : decode cX4_init 14 = .ok (.istore_n 1, 1) := by decide +kernel
theorem dX4_init_15 : decode cX4_init 15 = .ok (.iload_n 1, 1) := by decide +kernel
theorem dX4_init_16 : decode cX4_init 16 = .ok (.bipush 6, 2) := by decide +kernel
theorem dX4_init_18 : decode cX4_init 18 = .ok (.if_icmp .ge 22, 3) := by decide +kernel
theorem dX4_init_21 : decode cX4_init 21 = .ok (.aload_n 0, 1) := by decide +kernel
theorem dX4_init_22 : decode cX4_init 22 = .ok (.getfield 11, 3) := by decide +kernel
theorem dX4_init_25 : decode cX4_init 25 = .ok (.iload_n 1, 1) := by decide +kernel
theorem dX4_init_26 : decode cX4_init 26 = .ok (.new 9, 3) := by decide +kernel
theorem dX4_init_29 : decode cX4_init 29 = .ok (.dup, 1) := by decide +kernel
theorem dX4_init_30 : decode cX4_init 30 = .ok (.invokespecial 17, 3) := by decide +kernel
theorem dX4_init_33 : decode cX4_init 33 = .ok (.aastore, 1) := by decide +kernel
theorem dX4_init_34 : decode cX4_init 34 = .ok (.iinc 1 1, 3) := by decide +kernel
theorem dX4_init_37 : decode cX4_init 37 = .ok (.goto (-22), 3) := by decide +kernel
theorem dX4_init_40 : decode cX4_init 40 = .ok (.return_, 1) := by decide +kernel
theorem dX4_save_0 : decode cX4_save 0 = .ok (.aload_n 0, 1) := by decide +kernel
theorem dX4_save_1 : decode cX4_save 1 = .ok (.getfield 11, 3) := by decide +kernel
theorem dX4_save_4 : decode cX4_save 4 = .ok (.aload_n 0, 1) := by decide +kernel
theorem dX4_save_5 : decode cX4_save 5 = .ok (.getfield 18, 3) := by decide +kernel
theorem dX4_save_8 : decode cX4_save 8 = .ok (.aload_n 0, 1) := by decide +kernel
theorem dX4_save_9 : decode cX4_save 9 = .ok (.getfield 22, 3) := by decide +kernel
theorem dX4_save_12 : decode cX4_save 12 = .ok (.iadd, 1) := by decide +kernel
theorem dX4_save_13 : decode cX4_save 13 = .ok (.bipush 6, 2) := by decide +kernel
theorem dX4_save_15 : decode cX4_save 15 = .ok (.irem, 1) := by decide +kernel
theorem dX4_save_16 : decode cX4_save 16 = .ok (.aaload, 1) := by decide +kernel
theorem dX4_save_17 : decode cX4_save 17 = .ok (.astore_n 2, 1) := by decide +kernel
theorem dX4_save_18 : decode cX4_save 18 = .ok (.aload_n 2, 1) := by decide +kernel
theorem dX4_save_19 : decode cX4_save 19 = .ok (.ifnonnull 4, 3) := by decide +kernel
theorem dX4_save_22 : decode cX4_save 22 = .ok (.return_, 1) := by decide +kernel
theorem dX4_save_23 : decode cX4_save 23 = .ok (.aload_n 2, 1) := by decide +kernel
theorem dX4_save_24 : decode cX4_save 24 = .ok (.aload_n 1, 1) := by decide +kernel
theorem dX4_save_25 : decode cX4_save 25 = .ok (.invokevirtual 25, 3) := by decide +kernel
theorem dX4_save_28 : decode cX4_save 28 = .ok (.aload_n 0, 1) := by decide +kernel
theorem dX4_save_29 : decode cX4_save 29 = .ok (.getfield 22, 3) := by decide +kernel
theorem dX4_save_32 : decode cX4_save 32 = .ok (.bipush 6, 2) := by decide +kernel
theorem dX4_save_34 : decode cX4_save 34 = .ok (.if_icmp .ge 16, 3) := by decide +kernel
theorem dX4_save_37 : decode cX4_save 37 = .ok (.aload_n 0, 1) := by decide +kernel
theorem dX4_save_38 : decode cX4_save 38 = .ok (.dup, 1) := by decide +kernel
theorem dX4_save_39 : decode cX4_save 39 = .ok (.getfield 22, 3) := by decide +kernel
theorem dX4_save_42 : decode cX4_save 42 = .ok (.iconst 1, 1) := by decide +kernel
theorem dX4_save_43 : decode cX4_save 43 = .ok (.iadd, 1) := by decide +kernel
theorem dX4_save_44 : decode cX4_save 44 = .ok (.putfield 22, 3) := by decide +kernel
theorem dX4_save_47 : decode cX4_save 47 = .ok (.goto 16, 3) := by decide +kernel
theorem dX4_save_50 : decode cX4_save 50 = .ok (.aload_n 0, 1) := by decide +kernel
theorem dX4_save_51 : decode cX4_save 51 = .ok (.aload_n 0, 1) := by decide +kernel
theorem dX4_save_52 : decode cX4_save 52 = .ok (.getfield 18, 3) := by decide +kernel
theorem dX4_save_55 : decode cX4_save 55 = .ok (.iconst 1, 1) := by decide +kernel
theorem dX4_save_56 : decode cX4_save 56 = .ok (.iadd, 1) := by decide +kernel
theorem dX4_save_57 : decode cX4_save 57 = .ok (.bipush 6, 2) := by decide +kernel
theorem dX4_save_59 : decode cX4_save 59 = .ok (.irem, 1) := by decide +kernel
theorem dX4_save_60 : decode cX4_save 60 = .ok (.putfield 18, 3) := by decide +kernel
theorem dX4_save_63 : decode cX4_save 63 = .ok (.return_, 1) := by decide +kernel
theorem dX4_restore_0 : decode cX4_restore 0 = .ok (.aload_n 0, 1) := by decide +kernel
theorem dX4_restore_1 : decode cX4_restore 1 = .ok (.getfield 22, 3) := by decide +kernel
theorem dX4_restore_4 : decode cX4_restore 4 = .ok (.ifCond .ne 4, 3) := by decide +kernel
theorem dX4_restore_7 : decode cX4_restore 7 = .ok (.return_, 1) := by decide +kernel
theorem dX4_restore_8 : decode cX4_restore 8 = .ok (.aload_n 0, 1) := by decide +kernel
theorem dX4_restore_9 : decode cX4_restore 9 = .ok (.getfield 11, 3) := by decide +kernel
theorem dX4_restore_12 : decode cX4_restore 12 = .ok (.aload_n 0, 1) := by decide +kernel
theorem dX4_restore_13 : decode cX4_restore 13 = .ok (.getfield 18, 3) := by decide +kernel
theorem dX4_restore_16 : decode cX4_restore 16 = .ok (.aload_n 0, 1) := by decide +kernel
theorem dX4_restore_17 : decode cX4_restore 17 = .ok (.getfield 22, 3) := by decide +kernel
theorem dX4_restore_20 : decode cX4_restore 20 = .ok (.iadd, 1) := by decide +kernel
theorem dX4_restore_21 : decode cX4_restore 21 = .ok (.iconst 1, 1) := by decide +kernel
theorem dX4_restore_22 : decode cX4_restore 22 = .ok (.isub, 1) := by decide +kernel
theorem dX4_restore_23 : decode cX4_restore 23 = .ok (.bipush 6, 2) := by decide +kernel
theorem dX4_restore_25 : decode cX4_restore 25 = .ok (.irem, 1) := by decide +kernel
theorem dX4_restore_26 : decode cX4_restore 26 = .ok (.aaload, 1) := by decide +kernel
theorem dX4_restore_27 : decode cX4_restore 27 = .ok (.astore_n 2, 1) := by decide +kernel
theorem dX4_restore_28 : decode cX4_restore 28 = .ok (.aload_n 2, 1) := by decide +kernel
theorem dX4_restore_29 : decode cX4_restore 29 = .ok (.ifnull 18, 3) := by decide +kernel
theorem dX4_restore_32 : decode cX4_restore 32 = .ok (.aload_n 1, 1) := by decide +kernel
theorem dX4_restore_33 : decode cX4_restore 33 = .ok (.aload_n 2, 1) := by decide +kernel
theorem dX4_restore_34 : decode cX4_restore 34 = .ok (.invokevirtual 25, 3) := by decide +kernel
theorem dX4_restore_37 : decode cX4_restore 37 = .ok (.aload_n 0, 1) := by decide +kernel
theorem dX4_restore_38 : decode cX4_restore 38 = .ok (.dup, 1) := by decide +kernel
theorem dX4_restore_39 : decode cX4_restore 39 = .ok (.getfield 22, 3) := by decide +kernel
theorem dX4_restore_42 : decode cX4_restore 42 = .ok (.iconst 1, 1) := by decide +kernel
theorem dX4_restore_43 : decode cX4_restore 43 = .ok (.isub, 1) := by decide +kernel
theorem dX4_restore_44 : decode cX4_restore 44 = .ok (.putfield 22, 3) := by decide +kernel
theorem dX4_restore_47 : decode cX4_restore 47 = .ok (.return_, 1) := by decide +kernel
theorem dX5_init_0 : decode cX5_init 0 = .ok (.aload_n 0, 1) := by decide +kernel
theorem dX5_init_1 : decode cX5_init 1 = .ok (.invokespecial 3, 3) := by decide +kernel
theorem dX5_init_4 : decode cX5_init 4 = .ok (.return_, 1) := by decide +kernel
theorem dX5_read_0 : decode cX5_read 0 = .ok (.aload_n 0, 1) := by decide +kernel
theorem dX5_read_1 : decode cX5_read 1 = .ok (.invokevirtual 9, 3) := by decide +kernel
theorem dX5_read_4 : decode cX5_read 4 = .ok (.iconst 0, 1) := by decide +kernel
theorem dX5_read_5 : decode cX5_read 5 = .ok (.istore_n 2, 1) := by decide +kernel
theorem dX5_read_6 : decode cX5_read 6 = .ok (.iload_n 2, 1) := by decide +kernel
theorem dX5_read_7 : decode cX5_read 7 = .ok (.aload_n 1, 1) := by decide +kernel
theorem dX5_read_8 : decode cX5_read 8 = .ok (.getfield 14, 3) := by decide +kernel
theorem dX5_read_11 : decode cX5_read 11 = .ok (.if_icmp .ge 23, 3) := by decide +kernel
theorem dX5_read_14 : decode cX5_read 14 = .ok (.aload_n 0, 1) := by decide +kernel
theorem dX5_read_15 : decode cX5_read 15 = .ok (.aload_n 1, 1) := by decide +kernel
theorem dX5_read_16 : decode cX5_read 16 = .ok (.iload_n 2, 1) := by decide +kernel
theorem dX5_read_17 : decode cX5_read 17 = .ok (.invokevirtual 20, 3) := by decide +kernel
theorem dX5_read_20 : decode cX5_read 20 = .ok (.invokevirtual 24, 3) := by decide +kernel
theorem dX5_read_23 : decode cX5_read 23 = .ok (.ifCond .ne 5, 3) := by decide +kernel
theorem dX5_read_26 : decode cX5_read 26 = .ok (.iload_n 2, 1) := by decide +kernel
theorem dX5_read_27 : decode cX5_read 27 = .ok (.ireturn, 1) := by decide +kernel
theorem dX5_read_28 : decode cX5_read 28 = .ok (.iinc 2 1, 3) := by decide +kernel
theorem dX5_read_31 : decode cX5_read 31 = .ok (.goto (-25), 3) := by decide +kernel
theorem dX5_read_34 : decode cX5_read 34 = .ok (.aload_n 1, 1) := by decide +kernel
theorem dX5_read_35 : decode cX5_read 35 = .ok (.getfield 14, 3) := by decide +kernel
theorem dX5_read_38 : decode cX5_read 38 = .ok (.ireturn, 1) := by decide +kernel
theorem dX5_isComplete_0 : decode cX5_isComplete 0 = .ok (.aload_n 0, 1) := by decide +kernel
theorem dX5_isComplete_1 : decode cX5_isComplete 1 = .ok (.getfield 28, 3) := by decide +kernel
theorem dX5_isComplete_4 : decode cX5_isComplete 4 = .ok (.iconst 4, 1) := by decide +kernel
theorem dX5_isComplete_5 : decode cX5_isComplete 5 = .ok (.if_icmp .ne 16, 3) := by decide +kernel
theorem dX5_isComplete_8 : decode cX5_isComplete 8 = .ok (.aload_n 0, 1) := by decide +kernel
theorem dX5_isComplete_9 : decode cX5_isComplete 9 = .ok (.getfield 31, 3) := by decide +kernel
theorem dX5_isComplete_12 : decode cX5_isComplete 12 = .ok (.bipush 10, 2) := by decide +kernel
theorem dX5_isComplete_14 : decode cX5_isComplete 14 = .ok (.if_icmp .lt 7, 3) := by decide +kernel
theorem dX5_isComplete_17 : decode cX5_isComplete 17 = .ok (.iconst 1, 1) := by decide +kernel
theorem dX5_isComplete_18 : decode cX5_isComplete 18 = .ok (.goto 4, 3) := by decide +kernel
theorem dX5_isComplete_21 : decode cX5_isComplete 21 = .ok (.iconst 0, 1) := by decide +kernel
theorem dX5_isComplete_22 : decode cX5_isComplete 22 = .ok (.ireturn, 1) := by decide +kernel
theorem dX5_enterAll_0 : decode cX5_enterAll 0 = .ok (.aload_n 0, 1) := by decide +kernel
theorem dX5_enterAll_1 : decode cX5_enterAll 1 = .ok (.invokevirtual 9, 3) := by decide +kernel
theorem dX5_enterAll_4 : decode cX5_enterAll 4 = .ok (.iconst 0, 1) := by decide +kernel
theorem dX5_enterAll_5 : decode cX5_enterAll 5 = .ok (.istore_n 3, 1) := by decide +kernel
theorem dX5_enterAll_6 : decode cX5_enterAll 6 = .ok (.iload_n 3, 1) := by decide +kernel
theorem dX5_enterAll_7 : decode cX5_enterAll 7 = .ok (.aload_n 1, 1) := by decide +kernel
theorem dX5_enterAll_8 : decode cX5_enterAll 8 = .ok (.getfield 14, 3) := by decide +kernel
theorem dX5_enterAll_11 : decode cX5_enterAll 11 = .ok (.if_icmp .ge 34, 3) := by decide +kernel
theorem dX5_enterAll_14 : decode cX5_enterAll 14 = .ok (.aload_n 1, 1) := by decide +kernel
theorem dX5_enterAll_15 : decode cX5_enterAll 15 = .ok (.iload_n 3, 1) := by decide +kernel
theorem dX5_enterAll_16 : decode cX5_enterAll 16 = .ok (.invokevirtual 20, 3) := by decide +kernel
theorem dX5_enterAll_19 : decode cX5_enterAll 19 = .ok (.bipush 44, 2) := by decide +kernel
theorem dX5_enterAll_21 : decode cX5_enterAll 21 = .ok (.if_icmp .ne 8, 3) := by decide +kernel
theorem dX5_enterAll_24 : decode cX5_enterAll 24 = .ok (.aload_n 0, 1) := by decide +kernel
theorem dX5_enterAll_25 : decode cX5_enterAll 25 = .ok (.aload_n 2, 1) := by decide +kernel
theorem dX5_enterAll_26 : decode cX5_enterAll 26 = .ok (.invokevirtual 32, 3) := by decide +kernel
theorem dX5_enterAll_29 : decode cX5_enterAll 29 = .ok (.aload_n 0, 1) := by decide +kernel
theorem dX5_enterAll_30 : decode cX5_enterAll 30 = .ok (.aload_n 1, 1) := by decide +kernel
theorem dX5_enterAll_31 : decode cX5_enterAll 31 = .ok (.iload_n 3, 1) := by decide +kernel
theorem dX5_enterAll_32 : decode cX5_enterAll 32 = .ok (.invokevirtual 20, 3) := by decide +kernel
theorem dX5_enterAll_35 : decode cX5_enterAll 35 = .ok (.invokevirtual 24, 3) := by decide +kernel
theorem dX5_enterAll_38 : decode cX5_enterAll 38 = .ok (.pop, 1) := by decide +kernel
theorem dX5_enterAll_39 : decode cX5_enterAll 39 = .ok (.iinc 3 1, 3) := by decide +kernel
theorem dX5_enterAll_42 : decode cX5_enterAll 42 = .ok (.goto (-36), 3) := by decide +kernel
theorem dX5_enterAll_45 : decode cX5_enterAll 45 = .ok (.aload_n 0, 1) := by decide +kernel
theorem dX5_enterAll_46 : decode cX5_enterAll 46 = .ok (.aload_n 2, 1) := by decide +kernel
theorem dX5_enterAll_47 : decode cX5_enterAll 47 = .ok (.invokevirtual 32, 3) := by decide +kernel
theorem dX5_enterAll_50 : decode cX5_enterAll 50 = .ok (.return_, 1) := by decide +kernel
theorem dX5_enterOne_0 : decode cX5_enterOne 0 = .ok (.aload_n 1, 1) := by decide +kernel
theorem dX5_enterOne_1 : decode cX5_enterOne 1 = .ok (.getfield 36, 3) := by decide +kernel
theorem dX5_enterOne_4 : decode cX5_enterOne 4 = .ok (.aload_n 0, 1) := by decide +kernel
theorem dX5_enterOne_5 : decode cX5_enterOne 5 = .ok (.getfield 42, 3) := by decide +kernel
theorem dX5_enterOne_8 : decode cX5_enterOne 8 = .ok (.aload_n 0, 1) := by decide +kernel
theorem dX5_enterOne_9 : decode cX5_enterOne 9 = .ok (.getfield 45, 3) := by decide +kernel
theorem dX5_enterOne_12 : decode cX5_enterOne 12 = .ok (.aload_n 1, 1) := by decide +kernel
theorem dX5_enterOne_13 : decode cX5_enterOne 13 = .ok (.getfield 48, 3) := by decide +kernel
theorem dX5_enterOne_16 : decode cX5_enterOne 16 = .ok (.aload_n 0, 1) := by decide +kernel
theorem dX5_enterOne_17 : decode cX5_enterOne 17 = .ok (.getfield 51, 3) := by decide +kernel
theorem dX5_enterOne_20 : decode cX5_enterOne 20 = .ok (.iadd, 1) := by decide +kernel
theorem dX5_enterOne_21 : decode cX5_enterOne 21 = .ok (.aload_n 0, 1) := by decide +kernel
theorem dX5_enterOne_22 : decode cX5_enterOne 22 = .ok (.getfield 31, 3) := by decide +kernel
theorem dX5_enterOne_25 : decode cX5_enterOne 25 = .ok (.invokevirtual 54, 3) := by decide +kernel
theorem dX5_enterOne_28 : decode cX5_enterOne 28 = .ok (.pop, 1) := by decide +kernel
theorem dX5_enterOne_29 : decode cX5_enterOne 29 = .ok (.return_, 1) := by decide +kernel
theorem dX5_begin_0 : decode cX5_begin 0 = .ok (.aload_n 0, 1) := by decide +kernel
theorem dX5_begin_1 : decode cX5_begin 1 = .ok (.iconst 0, 1) := by decide +kernel
theorem dX5_begin_2 : decode cX5_begin 2 = .ok (.putfield 28, 3) := by decide +kernel
theorem dX5_begin_5 : decode cX5_begin 5 = .ok (.aload_n 0, 1) := by decide +kernel
theorem dX5_begin_6 : decode cX5_begin 6 = .ok (.iconst 0, 1) := by decide +kernel
theorem dX5_begin_7 : decode cX5_begin 7 = .ok (.putfield 60, 3) := by decide +kernel
theorem dX5_begin_10 : decode cX5_begin 10 = .ok (.return_, 1) := by decide +kernel
theorem dX5_take_0 : decode cX5_take 0 = .ok (.aload_n 0, 1) := by decide +kernel
theorem dX5_take_1 : decode cX5_take 1 = .ok (.getfield 28, 3) := by decide +kernel
theorem dX5_take_4 : decode cX5_take 4 = .ok (.tableswitch 56 0 3 #[32, 38, 44, 50], 32) := by decide +kernel
theorem dX5_take_36 : decode cX5_take 36 = .ok (.aload_n 0, 1) := by decide +kernel
theorem dX5_take_37 : decode cX5_take 37 = .ok (.iload_n 1, 1) := by decide +kernel
theorem dX5_take_38 : decode cX5_take 38 = .ok (.invokevirtual 63, 3) := by decide +kernel
theorem dX5_take_41 : decode cX5_take 41 = .ok (.ireturn, 1) := by decide +kernel
theorem dX5_take_42 : decode cX5_take 42 = .ok (.aload_n 0, 1) := by decide +kernel
theorem dX5_take_43 : decode cX5_take 43 = .ok (.iload_n 1, 1) := by decide +kernel
theorem dX5_take_44 : decode cX5_take 44 = .ok (.invokevirtual 66, 3) := by decide +kernel
theorem dX5_take_47 : decode cX5_take 47 = .ok (.ireturn, 1) := by decide +kernel
theorem dX5_take_48 : decode cX5_take 48 = .ok (.aload_n 0, 1) := by decide +kernel
theorem dX5_take_49 : decode cX5_take 49 = .ok (.iload_n 1, 1) := by decide +kernel
theorem dX5_take_50 : decode cX5_take 50 = .ok (.invokevirtual 69, 3) := by decide +kernel
theorem dX5_take_53 : decode cX5_take 53 = .ok (.ireturn, 1) := by decide +kernel
theorem dX5_take_54 : decode cX5_take 54 = .ok (.aload_n 0, 1) := by decide +kernel
theorem dX5_take_55 : decode cX5_take 55 = .ok (.iload_n 1, 1) := by decide +kernel
theorem dX5_take_56 : decode cX5_take 56 = .ok (.invokevirtual 72, 3) := by decide +kernel
theorem dX5_take_59 : decode cX5_take 59 = .ok (.ireturn, 1) := by decide +kernel
theorem dX5_take_60 : decode cX5_take 60 = .ok (.aload_n 0, 1) := by decide +kernel
theorem dX5_take_61 : decode cX5_take 61 = .ok (.iload_n 1, 1) := by decide +kernel
theorem dX5_take_62 : decode cX5_take 62 = .ok (.invokevirtual 75, 3) := by decide +kernel
theorem dX5_take_65 : decode cX5_take 65 = .ok (.ireturn, 1) := by decide +kernel
theorem dX5_takeKind_0 : decode cX5_takeKind 0 = .ok (.iload_n 1, 1) := by decide +kernel
theorem dX5_takeKind_1 : decode cX5_takeKind 1 = .ok (.bipush 99, 2) := by decide +kernel
theorem dX5_takeKind_3 : decode cX5_takeKind 3 = .ok (.if_icmp .eq 17, 3) := by decide +kernel
theorem dX5_takeKind_6 : decode cX5_takeKind 6 = .ok (.iload_n 1, 1) := by decide +kernel
theorem dX5_takeKind_7 : decode cX5_takeKind 7 = .ok (.bipush 114, 2) := by decide +kernel
theorem dX5_takeKind_9 : decode cX5_takeKind 9 = .ok (.if_icmp .eq 11, 3) := by decide +kernel
theorem dX5_takeKind_12 : decode cX5_takeKind 12 = .ok (.iload_n 1, 1) := by decide +kernel
theorem dX5_takeKind_13 : decode cX5_takeKind 13 = .ok (.bipush 97, 2) := by decide +kernel
theorem dX5_takeKind_15 : decode cX5_takeKind 15 = .ok (.if_icmp .eq 5, 3) := by decide +kernel
theorem dX5_takeKind_18 : decode cX5_takeKind 18 = .ok (.iconst 0, 1) := by decide +kernel
theorem dX5_takeKind_19 : decode cX5_takeKind 19 = .ok (.ireturn, 1) := by decide +kernel
theorem dX5_takeKind_20 : decode cX5_takeKind 20 = .ok (.aload_n 0, 1) := by decide +kernel
theorem dX5_takeKind_21 : decode cX5_takeKind 21 = .ok (.iload_n 1, 1) := by decide +kernel
theorem dX5_takeKind_22 : decode cX5_takeKind 22 = .ok (.bipush 99, 2) := by decide +kernel
theorem dX5_takeKind_24 : decode cX5_takeKind 24 = .ok (.if_icmp .ne 7, 3) := by decide +kernel
theorem dX5_takeKind_27 : decode cX5_takeKind 27 = .ok (.iconst 0, 1) := by decide +kernel
theorem dX5_takeKind_28 : decode cX5_takeKind 28 = .ok (.goto 14, 3) := by decide +kernel
theorem dX5_takeKind_31 : decode cX5_takeKind 31 = .ok (.iload_n 1, 1) := by decide +kernel
theorem dX5_takeKind_32 : decode cX5_takeKind 32 = .ok (.bipush 114, 2) := by decide +kernel
theorem dX5_takeKind_34 : decode cX5_takeKind 34 = .ok (.if_icmp .ne 7, 3) := by decide +kernel
theorem dX5_takeKind_37 : decode cX5_takeKind 37 = .ok (.iconst 1, 1) := by decide +kernel
theorem dX5_takeKind_38 : decode cX5_takeKind 38 = .ok (.goto 4, 3) := by decide +kernel
theorem dX5_takeKind_41 : decode cX5_takeKind 41 = .ok (.iconst 2, 1) := by decide +kernel
theorem dX5_takeKind_42 : decode cX5_takeKind 42 = .ok (.putfield 42, 3) := by decide +kernel
theorem dX5_takeKind_45 : decode cX5_takeKind 45 = .ok (.aload_n 0, 1) := by decide +kernel
theorem dX5_takeKind_46 : decode cX5_takeKind 46 = .ok (.dup, 1) := by decide +kernel
theorem dX5_takeKind_47 : decode cX5_takeKind 47 = .ok (.getfield 60, 3) := by decide +kernel
theorem dX5_takeKind_50 : decode cX5_takeKind 50 = .ok (.iconst 1, 1) := by decide +kernel
theorem dX5_takeKind_51 : decode cX5_takeKind 51 = .ok (.iadd, 1) := by decide +kernel
theorem dX5_takeKind_52 : decode cX5_takeKind 52 = .ok (.putfield 60, 3) := by decide +kernel
theorem dX5_takeKind_55 : decode cX5_takeKind 55 = .ok (.aload_n 0, 1) := by decide +kernel
theorem dX5_takeKind_56 : decode cX5_takeKind 56 = .ok (.iconst 1, 1) := by decide +kernel
theorem dX5_takeKind_57 : decode cX5_takeKind 57 = .ok (.putfield 28, 3) := by decide +kernel
theorem dX5_takeKind_60 : decode cX5_takeKind 60 = .ok (.iconst 1, 1) := by decide +kernel
theorem dX5_takeKind_61 : decode cX5_takeKind 61 = .ok (.ireturn, 1) := by decide +kernel
theorem dX5_takeLanguage_0 : decode cX5_takeLanguage 0 = .ok (.iload_n 1, 1) := by decide +kernel
theorem dX5_takeLanguage_1 : decode cX5_takeLanguage 1 = .ok (.bipush 49, 2) := by decide +kernel
theorem dX5_takeLanguage_3 : decode cX5_takeLanguage 3 = .ok (.if_icmp .lt 9, 3) := by decide +kernel
theorem dX5_takeLanguage_6 : decode cX5_takeLanguage 6 = .ok (.iload_n 1, 1) := by decide +kernel
theorem dX5_takeLanguage_7 : decode cX5_takeLanguage 7 = .ok (.bipush 57, 2) := by decide +kernel
theorem dX5_takeLanguage_9 : decode cX5_takeLanguage 9 = .ok (.if_icmp .le 5, 3) := by decide +kernel
theorem dX5_takeLanguage_12 : decode cX5_takeLanguage 12 = .ok (.iconst 0, 1) := by decide +kernel
theorem dX5_takeLanguage_13 : decode cX5_takeLanguage 13 = .ok (.ireturn, 1) := by decide +kernel
theorem dX5_takeLanguage_14 : decode cX5_takeLanguage 14 = .ok (.aload_n 0, 1) := by decide +kernel
theorem dX5_takeLanguage_15 : decode cX5_takeLanguage 15 = .ok (.iload_n 1, 1) := by decide +kernel
theorem dX5_takeLanguage_16 : decode cX5_takeLanguage 16 = .ok (.bipush 48, 2) := by decide +kernel
theorem dX5_takeLanguage_18 : decode cX5_takeLanguage 18 = .ok (.isub, 1) := by decide +kernel
theorem dX5_takeLanguage_19 : decode cX5_takeLanguage 19 = .ok (.putfield 45, 3) := by decide +kernel
theorem dX5_takeLanguage_22 : decode cX5_takeLanguage 22 = .ok (.aload_n 0, 1) := by decide +kernel
theorem dX5_takeLanguage_23 : decode cX5_takeLanguage 23 = .ok (.iconst 2, 1) := by decide +kernel
theorem dX5_takeLanguage_24 : decode cX5_takeLanguage 24 = .ok (.putfield 28, 3) := by decide +kernel
theorem dX5_takeLanguage_27 : decode cX5_takeLanguage 27 = .ok (.iconst 1, 1) := by decide +kernel
theorem dX5_takeLanguage_28 : decode cX5_takeLanguage 28 = .ok (.ireturn, 1) := by decide +kernel
theorem dX5_takeSign_0 : decode cX5_takeSign 0 = .ok (.iload_n 1, 1) := by decide +kernel
theorem dX5_takeSign_1 : decode cX5_takeSign 1 = .ok (.bipush 64, 2) := by decide +kernel
theorem dX5_takeSign_3 : decode cX5_takeSign 3 = .ok (.if_icmp .eq 5, 3) := by decide +kernel
theorem dX5_takeSign_6 : decode cX5_takeSign 6 = .ok (.iconst 0, 1) := by decide +kernel
theorem dX5_takeSign_7 : decode cX5_takeSign 7 = .ok (.ireturn, 1) := by decide +kernel
theorem dX5_takeSign_8 : decode cX5_takeSign 8 = .ok (.aload_n 0, 1) := by decide +kernel
theorem dX5_takeSign_9 : decode cX5_takeSign 9 = .ok (.iconst 0, 1) := by decide +kernel
theorem dX5_takeSign_10 : decode cX5_takeSign 10 = .ok (.putfield 51, 3) := by decide +kernel
theorem dX5_takeSign_13 : decode cX5_takeSign 13 = .ok (.aload_n 0, 1) := by decide +kernel
theorem dX5_takeSign_14 : decode cX5_takeSign 14 = .ok (.iconst 3, 1) := by decide +kernel
theorem dX5_takeSign_15 : decode cX5_takeSign 15 = .ok (.putfield 28, 3) := by decide +kernel
theorem dX5_takeSign_18 : decode cX5_takeSign 18 = .ok (.iconst 1, 1) := by decide +kernel
theorem dX5_takeSign_19 : decode cX5_takeSign 19 = .ok (.ireturn, 1) := by decide +kernel
theorem dX5_takeIn_0 : decode cX5_takeIn 0 = .ok (.iload_n 1, 1) := by decide +kernel
theorem dX5_takeIn_1 : decode cX5_takeIn 1 = .ok (.bipush 43, 2) := by decide +kernel
theorem dX5_takeIn_3 : decode cX5_takeIn 3 = .ok (.if_icmp .ne 22, 3) := by decide +kernel
theorem dX5_takeIn_6 : decode cX5_takeIn 6 = .ok (.aload_n 0, 1) := by decide +kernel
theorem dX5_takeIn_7 : decode cX5_takeIn 7 = .ok (.getfield 51, 3) := by decide +kernel
theorem dX5_takeIn_10 : decode cX5_takeIn 10 = .ok (.ifCond .le 15, 3) := by decide +kernel
theorem dX5_takeIn_13 : decode cX5_takeIn 13 = .ok (.aload_n 0, 1) := by decide +kernel
theorem dX5_takeIn_14 : decode cX5_takeIn 14 = .ok (.iconst 0, 1) := by decide +kernel
theorem dX5_takeIn_15 : decode cX5_takeIn 15 = .ok (.putfield 31, 3) := by decide +kernel
theorem dX5_takeIn_18 : decode cX5_takeIn 18 = .ok (.aload_n 0, 1) := by decide +kernel
theorem dX5_takeIn_19 : decode cX5_takeIn 19 = .ok (.iconst 4, 1) := by decide +kernel
theorem dX5_takeIn_20 : decode cX5_takeIn 20 = .ok (.putfield 28, 3) := by decide +kernel
theorem dX5_takeIn_23 : decode cX5_takeIn 23 = .ok (.iconst 1, 1) := by decide +kernel
theorem dX5_takeIn_24 : decode cX5_takeIn 24 = .ok (.ireturn, 1) := by decide +kernel
theorem dX5_takeIn_25 : decode cX5_takeIn 25 = .ok (.aload_n 0, 1) := by decide +kernel
theorem dX5_takeIn_26 : decode cX5_takeIn 26 = .ok (.aload_n 0, 1) := by decide +kernel
theorem dX5_takeIn_27 : decode cX5_takeIn 27 = .ok (.getfield 51, 3) := by decide +kernel
theorem dX5_takeIn_30 : decode cX5_takeIn 30 = .ok (.iload_n 1, 1) := by decide +kernel
theorem dX5_takeIn_31 : decode cX5_takeIn 31 = .ok (.sipush 2000, 3) := by decide +kernel
theorem dX5_takeIn_34 : decode cX5_takeIn 34 = .ok (.invokestatic 78, 3) := by decide +kernel
theorem dX5_takeIn_37 : decode cX5_takeIn 37 = .ok (.putfield 51, 3) := by decide +kernel
theorem dX5_takeIn_40 : decode cX5_takeIn 40 = .ok (.aload_n 0, 1) := by decide +kernel
theorem dX5_takeIn_41 : decode cX5_takeIn 41 = .ok (.getfield 51, 3) := by decide +kernel
theorem dX5_takeIn_44 : decode cX5_takeIn 44 = .ok (.ifCond .le 7, 3) := by decide +kernel
theorem dX5_takeIn_47 : decode cX5_takeIn 47 = .ok (.iconst 1, 1) := by decide +kernel
theorem dX5_takeIn_48 : decode cX5_takeIn 48 = .ok (.goto 4, 3) := by decide +kernel
theorem dX5_takeIn_51 : decode cX5_takeIn 51 = .ok (.iconst 0, 1) := by decide +kernel
theorem dX5_takeIn_52 : decode cX5_takeIn 52 = .ok (.ireturn, 1) := by decide +kernel
theorem dX5_takeLength_0 : decode cX5_takeLength 0 = .ok (.iload_n 1, 1) := by decide +kernel
theorem dX5_takeLength_1 : decode cX5_takeLength 1 = .ok (.bipush 44, 2) := by decide +kernel
theorem dX5_takeLength_3 : decode cX5_takeLength 3 = .ok (.if_icmp .ne 19, 3) := by decide +kernel
theorem dX5_takeLength_6 : decode cX5_takeLength 6 = .ok (.aload_n 0, 1) := by decide +kernel
theorem dX5_takeLength_7 : decode cX5_takeLength 7 = .ok (.getfield 31, 3) := by decide +kernel
theorem dX5_takeLength_10 : decode cX5_takeLength 10 = .ok (.bipush 10, 2) := by decide +kernel
theorem dX5_takeLength_12 : decode cX5_takeLength 12 = .ok (.if_icmp .lt 10, 3) := by decide +kernel
theorem dX5_takeLength_15 : decode cX5_takeLength 15 = .ok (.aload_n 0, 1) := by decide +kernel
theorem dX5_takeLength_16 : decode cX5_takeLength 16 = .ok (.iconst 0, 1) := by decide +kernel
theorem dX5_takeLength_17 : decode cX5_takeLength 17 = .ok (.putfield 28, 3) := by decide +kernel
theorem dX5_takeLength_20 : decode cX5_takeLength 20 = .ok (.iconst 1, 1) := by decide +kernel
theorem dX5_takeLength_21 : decode cX5_takeLength 21 = .ok (.ireturn, 1) := by decide +kernel
theorem dX5_takeLength_22 : decode cX5_takeLength 22 = .ok (.aload_n 0, 1) := by decide +kernel
theorem dX5_takeLength_23 : decode cX5_takeLength 23 = .ok (.aload_n 0, 1) := by decide +kernel
theorem dX5_takeLength_24 : decode cX5_takeLength 24 = .ok (.getfield 31, 3) := by decide +kernel
theorem dX5_takeLength_27 : decode cX5_takeLength 27 = .ok (.iload_n 1, 1) := by decide +kernel
theorem dX5_takeLength_28 : decode cX5_takeLength 28 = .ok (.sipush 240, 3) := by decide +kernel
theorem dX5_takeLength_31 : decode cX5_takeLength 31 = .ok (.invokestatic 78, 3) := by decide +kernel
theorem dX5_takeLength_34 : decode cX5_takeLength 34 = .ok (.putfield 31, 3) := by decide +kernel
theorem dX5_takeLength_37 : decode cX5_takeLength 37 = .ok (.aload_n 0, 1) := by decide +kernel
theorem dX5_takeLength_38 : decode cX5_takeLength 38 = .ok (.getfield 31, 3) := by decide +kernel
theorem dX5_takeLength_41 : decode cX5_takeLength 41 = .ok (.ifCond .le 7, 3) := by decide +kernel
theorem dX5_takeLength_44 : decode cX5_takeLength 44 = .ok (.iconst 1, 1) := by decide +kernel
theorem dX5_takeLength_45 : decode cX5_takeLength 45 = .ok (.goto 4, 3) := by decide +kernel
theorem dX5_takeLength_48 : decode cX5_takeLength 48 = .ok (.iconst 0, 1) := by decide +kernel
theorem dX5_takeLength_49 : decode cX5_takeLength 49 = .ok (.ireturn, 1) := by decide +kernel
theorem dX5_longer_0 : decode cX5_longer 0 = .ok (.iload_n 1, 1) := by decide +kernel
theorem dX5_longer_1 : decode cX5_longer 1 = .ok (.bipush 48, 2) := by decide +kernel
theorem dX5_longer_3 : decode cX5_longer 3 = .ok (.if_icmp .lt 9, 3) := by decide +kernel
theorem dX5_longer_6 : decode cX5_longer 6 = .ok (.iload_n 1, 1) := by decide +kernel
theorem dX5_longer_7 : decode cX5_longer 7 = .ok (.bipush 57, 2) := by decide +kernel
theorem dX5_longer_9 : decode cX5_longer 9 = .ok (.if_icmp .le 5, 3) := by decide +kernel
theorem dX5_longer_12 : decode cX5_longer 12 = .ok (.iconst 0, 1) := by decide +kernel
theorem dX5_longer_13 : decode cX5_longer 13 = .ok (.ireturn, 1) := by decide +kernel
theorem dX5_longer_14 : decode cX5_longer 14 = .ok (.iload_n 0, 1) := by decide +kernel
theorem dX5_longer_15 : decode cX5_longer 15 = .ok (.bipush 10, 2) := by decide +kernel
theorem dX5_longer_17 : decode cX5_longer 17 = .ok (.imul, 1) := by decide +kernel
theorem dX5_longer_18 : decode cX5_longer 18 = .ok (.iload_n 1, 1) := by decide +kernel
theorem dX5_longer_19 : decode cX5_longer 19 = .ok (.bipush 48, 2) := by decide +kernel
theorem dX5_longer_21 : decode cX5_longer 21 = .ok (.isub, 1) := by decide +kernel
theorem dX5_longer_22 : decode cX5_longer 22 = .ok (.iadd, 1) := by decide +kernel
theorem dX5_longer_23 : decode cX5_longer 23 = .ok (.istore_n 3, 1) := by decide +kernel
theorem dX5_longer_24 : decode cX5_longer 24 = .ok (.iload_n 3, 1) := by decide +kernel
theorem dX5_longer_25 : decode cX5_longer 25 = .ok (.iload_n 2, 1) := by decide +kernel
theorem dX5_longer_26 : decode cX5_longer 26 = .ok (.if_icmp .gt 7, 3) := by decide +kernel
theorem dX5_longer_29 : decode cX5_longer 29 = .ok (.iload_n 3, 1) := by decide +kernel
theorem dX5_longer_30 : decode cX5_longer 30 = .ok (.goto 4, 3) := by decide +kernel
theorem dX5_longer_33 : decode cX5_longer 33 = .ok (.iconst 0, 1) := by decide +kernel
theorem dX5_longer_34 : decode cX5_longer 34 = .ok (.ireturn, 1) := by decide +kernel
theorem dX6_init_0 : decode cX6_init 0 = .ok (.aload_n 0, 1) := by decide +kernel
theorem dX6_init_1 : decode cX6_init 1 = .ok (.invokespecial 3, 3) := by decide +kernel
theorem dX6_init_4 : decode cX6_init 4 = .ok (.aload_n 0, 1) := by decide +kernel
theorem dX6_init_5 : decode cX6_init 5 = .ok (.bipush 10, 2) := by decide +kernel
theorem dX6_init_7 : decode cX6_init 7 = .ok (.newarray .int, 2) := by decide +kernel
theorem dX6_init_9 : decode cX6_init 9 = .ok (.putfield 9, 3) := by decide +kernel
theorem dX6_init_12 : decode cX6_init 12 = .ok (.aload_n 0, 1) := by decide +kernel
theorem dX6_init_13 : decode cX6_init 13 = .ok (.bipush 10, 2) := by decide +kernel
theorem dX6_init_15 : decode cX6_init 15 = .ok (.newarray .int, 2) := by decide +kernel
theorem dX6_init_17 : decode cX6_init 17 = .ok (.putfield 15, 3) := by decide +kernel
theorem dX6_init_20 : decode cX6_init 20 = .ok (.aload_n 0, 1) := by decide +kernel
theorem dX6_init_21 : decode cX6_init 21 = .ok (.bipush 10, 2) := by decide +kernel
theorem dX6_init_23 : decode cX6_init 23 = .ok (.newarray .int, 2) := by decide +kernel
theorem dX6_init_25 : decode cX6_init 25 = .ok (.putfield 18, 3) := by decide +kernel
theorem dX6_init_28 : decode cX6_init 28 = .ok (.aload_n 0, 1) := by decide +kernel
theorem dX6_init_29 : decode cX6_init 29 = .ok (.bipush 10, 2) := by decide +kernel
theorem dX6_init_31 : decode cX6_init 31 = .ok (.newarray .int, 2) := by decide +kernel
theorem dX6_init_33 : decode cX6_init 33 = .ok (.putfield 21, 3) := by decide +kernel
theorem dX6_init_36 : decode cX6_init 36 = .ok (.aload_n 0, 1) := by decide +kernel
theorem dX6_init_37 : decode cX6_init 37 = .ok (.bipush 10, 2) := by decide +kernel
theorem dX6_init_39 : decode cX6_init 39 = .ok (.newarray .int, 2) := by decide +kernel
theorem dX6_init_41 : decode cX6_init 41 = .ok (.putfield 24, 3) := by decide +kernel
theorem dX6_init_44 : decode cX6_init 44 = .ok (.aload_n 0, 1) := by decide +kernel
theorem dX6_init_45 : decode cX6_init 45 = .ok (.bipush 10, 2) := by decide +kernel
theorem dX6_init_47 : decode cX6_init 47 = .ok (.newarray .int, 2) := by decide +kernel
theorem dX6_init_49 : decode cX6_init 49 = .ok (.putfield 27, 3) := by decide +kernel
theorem dX6_init_52 : decode cX6_init 52 = .ok (.return_, 1) := by decide +kernel
theorem dX6_copyFrom_0 : decode cX6_copyFrom 0 = .ok (.aload_n 0, 1) := by decide +kernel
theorem dX6_copyFrom_1 : decode cX6_copyFrom 1 = .ok (.aload_n 1, 1) := by decide +kernel
theorem dX6_copyFrom_2 : decode cX6_copyFrom 2 = .ok (.getfield 30, 3) := by decide +kernel
theorem dX6_copyFrom_5 : decode cX6_copyFrom 5 = .ok (.putfield 30, 3) := by decide +kernel
theorem dX6_copyFrom_8 : decode cX6_copyFrom 8 = .ok (.aload_n 1, 1) := by decide +kernel
theorem dX6_copyFrom_9 : decode cX6_copyFrom 9 = .ok (.getfield 9, 3) := by decide +kernel
theorem dX6_copyFrom_12 : decode cX6_copyFrom 12 = .ok (.iconst 0, 1) := by decide +kernel
theorem dX6_copyFrom_13 : decode cX6_copyFrom 13 = .ok (.aload_n 0, 1) := by decide +kernel
theorem dX6_copyFrom_14 : decode cX6_copyFrom 14 = .ok (.getfield 9, 3) := by decide +kernel
theorem dX6_copyFrom_17 : decode cX6_copyFrom 17 = .ok (.iconst 0, 1) := by decide +kernel
theorem dX6_copyFrom_18 : decode cX6_copyFrom 18 = .ok (.bipush 10, 2) := by decide +kernel
theorem dX6_copyFrom_20 : decode cX6_copyFrom 20 = .ok (.invokestatic 34, 3) := by decide +kernel
theorem dX6_copyFrom_23 : decode cX6_copyFrom 23 = .ok (.aload_n 1, 1) := by decide +kernel
theorem dX6_copyFrom_24 : decode cX6_copyFrom 24 = .ok (.getfield 15, 3) := by decide +kernel
theorem dX6_copyFrom_27 : decode cX6_copyFrom 27 = .ok (.iconst 0, 1) := by decide +kernel
theorem dX6_copyFrom_28 : decode cX6_copyFrom 28 = .ok (.aload_n 0, 1) := by decide +kernel
theorem dX6_copyFrom_29 : decode cX6_copyFrom 29 = .ok (.getfield 15, 3) := by decide +kernel
theorem dX6_copyFrom_32 : decode cX6_copyFrom 32 = .ok (.iconst 0, 1) := by decide +kernel
theorem dX6_copyFrom_33 : decode cX6_copyFrom 33 = .ok (.bipush 10, 2) := by decide +kernel
theorem dX6_copyFrom_35 : decode cX6_copyFrom 35 = .ok (.invokestatic 34, 3) := by decide +kernel
theorem dX6_copyFrom_38 : decode cX6_copyFrom 38 = .ok (.aload_n 1, 1) := by decide +kernel
theorem dX6_copyFrom_39 : decode cX6_copyFrom 39 = .ok (.getfield 18, 3) := by decide +kernel
theorem dX6_copyFrom_42 : decode cX6_copyFrom 42 = .ok (.iconst 0, 1) := by decide +kernel
theorem dX6_copyFrom_43 : decode cX6_copyFrom 43 = .ok (.aload_n 0, 1) := by decide +kernel
theorem dX6_copyFrom_44 : decode cX6_copyFrom 44 = .ok (.getfield 18, 3) := by decide +kernel
theorem dX6_copyFrom_47 : decode cX6_copyFrom 47 = .ok (.iconst 0, 1) := by decide +kernel
theorem dX6_copyFrom_48 : decode cX6_copyFrom 48 = .ok (.bipush 10, 2) := by decide +kernel
theorem dX6_copyFrom_50 : decode cX6_copyFrom 50 = .ok (.invokestatic 34, 3) := by decide +kernel
theorem dX6_copyFrom_53 : decode cX6_copyFrom 53 = .ok (.aload_n 1, 1) := by decide +kernel
theorem dX6_copyFrom_54 : decode cX6_copyFrom 54 = .ok (.getfield 21, 3) := by decide +kernel
theorem dX6_copyFrom_57 : decode cX6_copyFrom 57 = .ok (.iconst 0, 1) := by decide +kernel
theorem dX6_copyFrom_58 : decode cX6_copyFrom 58 = .ok (.aload_n 0, 1) := by decide +kernel
theorem dX6_copyFrom_59 : decode cX6_copyFrom 59 = .ok (.getfield 21, 3) := by decide +kernel
theorem dX6_copyFrom_62 : decode cX6_copyFrom 62 = .ok (.iconst 0, 1) := by decide +kernel
theorem dX6_copyFrom_63 : decode cX6_copyFrom 63 = .ok (.bipush 10, 2) := by decide +kernel
theorem dX6_copyFrom_65 : decode cX6_copyFrom 65 = .ok (.invokestatic 34, 3) := by decide +kernel
theorem dX6_copyFrom_68 : decode cX6_copyFrom 68 = .ok (.aload_n 1, 1) := by decide +kernel
theorem dX6_copyFrom_69 : decode cX6_copyFrom 69 = .ok (.getfield 24, 3) := by decide +kernel
theorem dX6_copyFrom_72 : decode cX6_copyFrom 72 = .ok (.iconst 0, 1) := by decide +kernel
theorem dX6_copyFrom_73 : decode cX6_copyFrom 73 = .ok (.aload_n 0, 1) := by decide +kernel
theorem dX6_copyFrom_74 : decode cX6_copyFrom 74 = .ok (.getfield 24, 3) := by decide +kernel
theorem dX6_copyFrom_77 : decode cX6_copyFrom 77 = .ok (.iconst 0, 1) := by decide +kernel
theorem dX6_copyFrom_78 : decode cX6_copyFrom 78 = .ok (.bipush 10, 2) := by decide +kernel
theorem dX6_copyFrom_80 : decode cX6_copyFrom 80 = .ok (.invokestatic 34, 3) := by decide +kernel
theorem dX6_copyFrom_83 : decode cX6_copyFrom 83 = .ok (.aload_n 1, 1) := by decide +kernel
theorem dX6_copyFrom_84 : decode cX6_copyFrom 84 = .ok (.getfield 27, 3) := by decide +kernel
theorem dX6_copyFrom_87 : decode cX6_copyFrom 87 = .ok (.iconst 0, 1) := by decide +kernel
theorem dX6_copyFrom_88 : decode cX6_copyFrom 88 = .ok (.aload_n 0, 1) := by decide +kernel
theorem dX6_copyFrom_89 : decode cX6_copyFrom 89 = .ok (.getfield 27, 3) := by decide +kernel
theorem dX6_copyFrom_92 : decode cX6_copyFrom 92 = .ok (.iconst 0, 1) := by decide +kernel
theorem dX6_copyFrom_93 : decode cX6_copyFrom 93 = .ok (.bipush 10, 2) := by decide +kernel
theorem dX6_copyFrom_95 : decode cX6_copyFrom 95 = .ok (.invokestatic 34, 3) := by decide +kernel
theorem dX6_copyFrom_98 : decode cX6_copyFrom 98 = .ok (.return_, 1) := by decide +kernel
theorem dX6_has_0 : decode cX6_has 0 = .ok (.iload_n 1, 1) := by decide +kernel
theorem dX6_has_1 : decode cX6_has 1 = .ok (.ifCond .lt 15, 3) := by decide +kernel
theorem dX6_has_4 : decode cX6_has 4 = .ok (.iload_n 1, 1) := by decide +kernel
theorem dX6_has_5 : decode cX6_has 5 = .ok (.aload_n 0, 1) := by decide +kernel
theorem dX6_has_6 : decode cX6_has 6 = .ok (.getfield 30, 3) := by decide +kernel
theorem dX6_has_9 : decode cX6_has 9 = .ok (.if_icmp .ge 7, 3) := by decide +kernel
theorem dX6_has_12 : decode cX6_has 12 = .ok (.iconst 1, 1) := by decide +kernel
theorem dX6_has_13 : decode cX6_has 13 = .ok (.goto 4, 3) := by decide +kernel
theorem dX6_has_16 : decode cX6_has 16 = .ok (.iconst 0, 1) := by decide +kernel
theorem dX6_has_17 : decode cX6_has 17 = .ok (.ireturn, 1) := by decide +kernel
theorem dX6_hire_0 : decode cX6_hire 0 = .ok (.aload_n 0, 1) := by decide +kernel
theorem dX6_hire_1 : decode cX6_hire 1 = .ok (.getfield 30, 3) := by decide +kernel
theorem dX6_hire_4 : decode cX6_hire 4 = .ok (.bipush 10, 2) := by decide +kernel
theorem dX6_hire_6 : decode cX6_hire 6 = .ok (.if_icmp .lt 5, 3) := by decide +kernel
theorem dX6_hire_9 : decode cX6_hire 9 = .ok (.iconst (-1), 1) := by decide +kernel
theorem dX6_hire_10 : decode cX6_hire 10 = .ok (.ireturn, 1) := by decide +kernel
theorem dX6_hire_11 : decode cX6_hire 11 = .ok (.aload_n 0, 1) := by decide +kernel
theorem dX6_hire_12 : decode cX6_hire 12 = .ok (.getfield 9, 3) := by decide +kernel
theorem dX6_hire_15 : decode cX6_hire 15 = .ok (.aload_n 0, 1) := by decide +kernel
theorem dX6_hire_16 : decode cX6_hire 16 = .ok (.getfield 30, 3) := by decide +kernel
theorem dX6_hire_19 : decode cX6_hire 19 = .ok (.iload_n 1, 1) := by decide +kernel
theorem dX6_hire_20 : decode cX6_hire 20 = .ok (.iastore, 1) := by decide +kernel
theorem dX6_hire_21 : decode cX6_hire 21 = .ok (.aload_n 0, 1) := by decide +kernel
theorem dX6_hire_22 : decode cX6_hire 22 = .ok (.getfield 15, 3) := by decide +kernel
theorem dX6_hire_25 : decode cX6_hire 25 = .ok (.aload_n 0, 1) := by decide +kernel
theorem dX6_hire_26 : decode cX6_hire 26 = .ok (.getfield 30, 3) := by decide +kernel
theorem dX6_hire_29 : decode cX6_hire 29 = .ok (.iload_n 2, 1) := by decide +kernel
theorem dX6_hire_30 : decode cX6_hire 30 = .ok (.iastore, 1) := by decide +kernel
theorem dX6_hire_31 : decode cX6_hire 31 = .ok (.aload_n 0, 1) := by decide +kernel
theorem dX6_hire_32 : decode cX6_hire 32 = .ok (.getfield 18, 3) := by decide +kernel
theorem dX6_hire_35 : decode cX6_hire 35 = .ok (.aload_n 0, 1) := by decide +kernel
theorem dX6_hire_36 : decode cX6_hire 36 = .ok (.getfield 30, 3) := by decide +kernel
theorem dX6_hire_39 : decode cX6_hire 39 = .ok (.iload_n 3, 1) := by decide +kernel
theorem dX6_hire_40 : decode cX6_hire 40 = .ok (.iastore, 1) := by decide +kernel
theorem dX6_hire_41 : decode cX6_hire 41 = .ok (.aload_n 0, 1) := by decide +kernel
theorem dX6_hire_42 : decode cX6_hire 42 = .ok (.getfield 21, 3) := by decide +kernel
theorem dX6_hire_45 : decode cX6_hire 45 = .ok (.aload_n 0, 1) := by decide +kernel
theorem dX6_hire_46 : decode cX6_hire 46 = .ok (.getfield 30, 3) := by decide +kernel
theorem dX6_hire_49 : decode cX6_hire 49 = .ok (.iconst 0, 1) := by decide +kernel
theorem dX6_hire_50 : decode cX6_hire 50 = .ok (.iastore, 1) := by decide +kernel
theorem dX6_hire_51 : decode cX6_hire 51 = .ok (.aload_n 0, 1) := by decide +kernel
theorem dX6_hire_52 : decode cX6_hire 52 = .ok (.getfield 24, 3) := by decide +kernel
theorem dX6_hire_55 : decode cX6_hire 55 = .ok (.aload_n 0, 1) := by decide +kernel
theorem dX6_hire_56 : decode cX6_hire 56 = .ok (.getfield 30, 3) := by decide +kernel
theorem dX6_hire_59 : decode cX6_hire 59 = .ok (.iconst 0, 1) := by decide +kernel
theorem dX6_hire_60 : decode cX6_hire 60 = .ok (.iastore, 1) := by decide +kernel
theorem dX6_hire_61 : decode cX6_hire 61 = .ok (.aload_n 0, 1) := by decide +kernel
theorem dX6_hire_62 : decode cX6_hire 62 = .ok (.getfield 27, 3) := by decide +kernel
theorem dX6_hire_65 : decode cX6_hire 65 = .ok (.aload_n 0, 1) := by decide +kernel
theorem dX6_hire_66 : decode cX6_hire 66 = .ok (.getfield 30, 3) := by decide +kernel
theorem dX6_hire_69 : decode cX6_hire 69 = .ok (.iconst 0, 1) := by decide +kernel
theorem dX6_hire_70 : decode cX6_hire 70 = .ok (.iastore, 1) := by decide +kernel
theorem dX6_hire_71 : decode cX6_hire 71 = .ok (.aload_n 0, 1) := by decide +kernel
theorem dX6_hire_72 : decode cX6_hire 72 = .ok (.dup, 1) := by decide +kernel
theorem dX6_hire_73 : decode cX6_hire 73 = .ok (.getfield 30, 3) := by decide +kernel
theorem dX6_hire_76 : decode cX6_hire 76 = .ok (.iconst 1, 1) := by decide +kernel
theorem dX6_hire_77 : decode cX6_hire 77 = .ok (.iadd, 1) := by decide +kernel
theorem dX6_hire_78 : decode cX6_hire 78 = .ok (.putfield 30, 3) := by decide +kernel
theorem dX6_hire_81 : decode cX6_hire 81 = .ok (.aload_n 0, 1) := by decide +kernel
theorem dX6_hire_82 : decode cX6_hire 82 = .ok (.getfield 30, 3) := by decide +kernel
theorem dX6_hire_85 : decode cX6_hire 85 = .ok (.iconst 1, 1) := by decide +kernel
theorem dX6_hire_86 : decode cX6_hire 86 = .ok (.isub, 1) := by decide +kernel
theorem dX6_hire_87 : decode cX6_hire 87 = .ok (.ireturn, 1) := by decide +kernel
theorem dX6_speaks_0 : decode cX6_speaks 0 = .ok (.aload_n 0, 1) := by decide +kernel
theorem dX6_speaks_1 : decode cX6_speaks 1 = .ok (.iload_n 1, 1) := by decide +kernel
theorem dX6_speaks_2 : decode cX6_speaks 2 = .ok (.invokevirtual 40, 3) := by decide +kernel
theorem dX6_speaks_5 : decode cX6_speaks 5 = .ok (.ifCond .eq 20, 3) := by decide +kernel
theorem dX6_speaks_8 : decode cX6_speaks 8 = .ok (.aload_n 0, 1) := by decide +kernel
theorem dX6_speaks_9 : decode cX6_speaks 9 = .ok (.getfield 9, 3) := by decide +kernel
theorem dX6_speaks_12 : decode cX6_speaks 12 = .ok (.iload_n 1, 1) := by decide +kernel
theorem dX6_speaks_13 : decode cX6_speaks 13 = .ok (.iaload, 1) := by decide +kernel
theorem dX6_speaks_14 : decode cX6_speaks 14 = .ok (.iload_n 2, 1) := by decide +kernel
theorem dX6_speaks_15 : decode cX6_speaks 15 = .ok (.ishr, 1) := by decide +kernel
theorem dX6_speaks_16 : decode cX6_speaks 16 = .ok (.iconst 1, 1) := by decide +kernel
theorem dX6_speaks_17 : decode cX6_speaks 17 = .ok (.iand, 1) := by decide +kernel
theorem dX6_speaks_18 : decode cX6_speaks 18 = .ok (.ifCond .eq 7, 3) := by decide +kernel
theorem dX6_speaks_21 : decode cX6_speaks 21 = .ok (.iconst 1, 1) := by decide +kernel
theorem dX6_speaks_22 : decode cX6_speaks 22 = .ok (.goto 4, 3) := by decide +kernel
theorem dX6_speaks_25 : decode cX6_speaks 25 = .ok (.iconst 0, 1) := by decide +kernel
theorem dX6_speaks_26 : decode cX6_speaks 26 = .ok (.ireturn, 1) := by decide +kernel
theorem dX6_shareLanguage_0 : decode cX6_shareLanguage 0 = .ok (.aload_n 0, 1) := by decide +kernel
theorem dX6_shareLanguage_1 : decode cX6_shareLanguage 1 = .ok (.iload_n 1, 1) := by decide +kernel
theorem dX6_shareLanguage_2 : decode cX6_shareLanguage 2 = .ok (.invokevirtual 40, 3) := by decide +kernel
theorem dX6_shareLanguage_5 : decode cX6_shareLanguage 5 = .ok (.ifCond .eq 31, 3) := by decide +kernel
theorem dX6_shareLanguage_8 : decode cX6_shareLanguage 8 = .ok (.aload_n 0, 1) := by decide +kernel
theorem dX6_shareLanguage_9 : decode cX6_shareLanguage 9 = .ok (.iload_n 2, 1) := by decide +kernel
theorem dX6_shareLanguage_10 : decode cX6_shareLanguage 10 = .ok (.invokevirtual 40, 3) := by decide +kernel
theorem dX6_shareLanguage_13 : decode cX6_shareLanguage 13 = .ok (.ifCond .eq 23, 3) := by decide +kernel
theorem dX6_shareLanguage_16 : decode cX6_shareLanguage 16 = .ok (.aload_n 0, 1) := by decide +kernel
theorem dX6_shareLanguage_17 : decode cX6_shareLanguage 17 = .ok (.getfield 9, 3) := by decide +kernel
theorem dX6_shareLanguage_20 : decode cX6_shareLanguage 20 = .ok (.iload_n 1, 1) := by decide +kernel
theorem dX6_shareLanguage_21 : decode cX6_shareLanguage 21 = .ok (.iaload, 1) := by decide +kernel
theorem dX6_shareLanguage_22 : decode cX6_shareLanguage 22 = .ok (.aload_n 0, 1) := by decide +kernel
theorem dX6_shareLanguage_23 : decode cX6_shareLanguage 23 = .ok (.getfield 9, 3) := by decide +kernel
theorem dX6_shareLanguage_26 : decode cX6_shareLanguage 26 = .ok (.iload_n 2, 1) := by decide +kernel
theorem dX6_shareLanguage_27 : decode cX6_shareLanguage 27 = .ok (.iaload, 1) := by decide +kernel
theorem dX6_shareLanguage_28 : decode cX6_shareLanguage 28 = .ok (.iand, 1) := by decide +kernel
theorem dX6_shareLanguage_29 : decode cX6_shareLanguage 29 = .ok (.ifCond .eq 7, 3) := by decide +kernel
theorem dX6_shareLanguage_32 : decode cX6_shareLanguage 32 = .ok (.iconst 1, 1) := by decide +kernel
theorem dX6_shareLanguage_33 : decode cX6_shareLanguage 33 = .ok (.goto 4, 3) := by decide +kernel
theorem dX6_shareLanguage_36 : decode cX6_shareLanguage 36 = .ok (.iconst 0, 1) := by decide +kernel
theorem dX6_shareLanguage_37 : decode cX6_shareLanguage 37 = .ok (.ireturn, 1) := by decide +kernel
theorem dX6_leadToCourt_0 : decode cX6_leadToCourt 0 = .ok (.iload 4, 2) := by decide +kernel
theorem dX6_leadToCourt_2 : decode cX6_leadToCourt 2 = .ok (.iconst (-1), 1) := by decide +kernel
theorem dX6_leadToCourt_3 : decode cX6_leadToCourt 3 = .ok (.if_icmp .eq 8, 3) := by decide +kernel
theorem dX6_leadToCourt_6 : decode cX6_leadToCourt 6 = .ok (.iload 4, 2) := by decide +kernel
theorem dX6_leadToCourt_8 : decode cX6_leadToCourt 8 = .ok (.goto 13, 3) := by decide +kernel
theorem dX6_leadToCourt_11 : decode cX6_leadToCourt 11 = .ok (.iload_n 3, 1) := by decide +kernel
theorem dX6_leadToCourt_12 : decode cX6_leadToCourt 12 = .ok (.iconst (-1), 1) := by decide +kernel
theorem dX6_leadToCourt_13 : decode cX6_leadToCourt 13 = .ok (.if_icmp .eq 7, 3) := by decide +kernel
theorem dX6_leadToCourt_16 : decode cX6_leadToCourt 16 = .ok (.iload_n 3, 1) := by decide +kernel
theorem dX6_leadToCourt_17 : decode cX6_leadToCourt 17 = .ok (.goto 4, 3) := by decide +kernel
theorem dX6_leadToCourt_20 : decode cX6_leadToCourt 20 = .ok (.iload_n 2, 1) := by decide +kernel
theorem dX6_leadToCourt_21 : decode cX6_leadToCourt 21 = .ok (.istore 5, 2) := by decide +kernel
theorem dX6_leadToCourt_23 : decode cX6_leadToCourt 23 = .ok (.aload_n 0, 1) := by decide +kernel
theorem dX6_leadToCourt_24 : decode cX6_leadToCourt 24 = .ok (.iload_n 2, 1) := by decide +kernel
theorem dX6_leadToCourt_25 : decode cX6_leadToCourt 25 = .ok (.iload_n 1, 1) := by decide +kernel
theorem dX6_leadToCourt_26 : decode cX6_leadToCourt 26 = .ok (.invokevirtual 44, 3) := by decide +kernel
theorem dX6_leadToCourt_29 : decode cX6_leadToCourt 29 = .ok (.ifCond .eq 47, 3) := by decide +kernel
theorem dX6_leadToCourt_32 : decode cX6_leadToCourt 32 = .ok (.iload_n 3, 1) := by decide +kernel
theorem dX6_leadToCourt_33 : decode cX6_leadToCourt 33 = .ok (.iconst (-1), 1) := by decide +kernel
theorem dX6_leadToCourt_34 : decode cX6_leadToCourt 34 = .ok (.if_icmp .eq 12, 3) := by decide +kernel
theorem dX6_leadToCourt_37 : decode cX6_leadToCourt 37 = .ok (.aload_n 0, 1) := by decide +kernel
theorem dX6_leadToCourt_38 : decode cX6_leadToCourt 38 = .ok (.iload_n 2, 1) := by decide +kernel
theorem dX6_leadToCourt_39 : decode cX6_leadToCourt 39 = .ok (.iload_n 3, 1) := by decide +kernel
theorem dX6_leadToCourt_40 : decode cX6_leadToCourt 40 = .ok (.invokevirtual 48, 3) := by decide +kernel
theorem dX6_leadToCourt_43 : decode cX6_leadToCourt 43 = .ok (.ifCond .eq 33, 3) := by decide +kernel
theorem dX6_leadToCourt_46 : decode cX6_leadToCourt 46 = .ok (.iload 4, 2) := by decide +kernel
theorem dX6_leadToCourt_48 : decode cX6_leadToCourt 48 = .ok (.iconst (-1), 1) := by decide +kernel
theorem dX6_leadToCourt_49 : decode cX6_leadToCourt 49 = .ok (.if_icmp .eq 13, 3) := by decide +kernel
theorem dX6_leadToCourt_52 : decode cX6_leadToCourt 52 = .ok (.aload_n 0, 1) := by decide +kernel
theorem dX6_leadToCourt_53 : decode cX6_leadToCourt 53 = .ok (.iload_n 3, 1) := by decide +kernel
theorem dX6_leadToCourt_54 : decode cX6_leadToCourt 54 = .ok (.iload 4, 2) := by decide +kernel
theorem dX6_leadToCourt_56 : decode cX6_leadToCourt 56 = .ok (.invokevirtual 48, 3) := by decide +kernel
theorem dX6_leadToCourt_59 : decode cX6_leadToCourt 59 = .ok (.ifCond .eq 17, 3) := by decide +kernel
theorem dX6_leadToCourt_62 : decode cX6_leadToCourt 62 = .ok (.aload_n 0, 1) := by decide +kernel
theorem dX6_leadToCourt_63 : decode cX6_leadToCourt 63 = .ok (.iload 5, 2) := by decide +kernel
theorem dX6_leadToCourt_65 : decode cX6_leadToCourt 65 = .ok (.iconst 0, 1) := by decide +kernel
theorem dX6_leadToCourt_66 : decode cX6_leadToCourt 66 = .ok (.invokevirtual 44, 3) := by decide +kernel
theorem dX6_leadToCourt_69 : decode cX6_leadToCourt 69 = .ok (.ifCond .eq 7, 3) := by decide +kernel
theorem dX6_leadToCourt_72 : decode cX6_leadToCourt 72 = .ok (.iconst 1, 1) := by decide +kernel
theorem dX6_leadToCourt_73 : decode cX6_leadToCourt 73 = .ok (.goto 4, 3) := by decide +kernel
theorem dX6_leadToCourt_76 : decode cX6_leadToCourt 76 = .ok (.iconst 0, 1) := by decide +kernel
theorem dX6_leadToCourt_77 : decode cX6_leadToCourt 77 = .ok (.ireturn, 1) := by decide +kernel
theorem dX6_speakersOf_0 : decode cX6_speakersOf 0 = .ok (.iconst 0, 1) := by decide +kernel
theorem dX6_speakersOf_1 : decode cX6_speakersOf 1 = .ok (.istore_n 2, 1) := by decide +kernel
theorem dX6_speakersOf_2 : decode cX6_speakersOf 2 = .ok (.iconst 0, 1) := by decide +kernel
theorem dX6_speakersOf_3 : decode cX6_speakersOf 3 = .ok (.istore_n 3, 1) := by decide +kernel
theorem dX6_speakersOf_4 : decode cX6_speakersOf 4 = .ok (.iload_n 3, 1) := by decide +kernel
theorem dX6_speakersOf_5 : decode cX6_speakersOf 5 = .ok (.aload_n 0, 1) := by decide +kernel
theorem dX6_speakersOf_6 : decode cX6_speakersOf 6 = .ok (.getfield 30, 3) := by decide +kernel
theorem dX6_speakersOf_9 : decode cX6_speakersOf 9 = .ok (.if_icmp .ge 27, 3) := by decide +kernel
theorem dX6_speakersOf_12 : decode cX6_speakersOf 12 = .ok (.aload_n 0, 1) := by decide +kernel
theorem dX6_speakersOf_13 : decode cX6_speakersOf 13 = .ok (.getfield 9, 3) := by decide +kernel
theorem dX6_speakersOf_16 : decode cX6_speakersOf 16 = .ok (.iload_n 3, 1) := by decide +kernel
theorem dX6_speakersOf_17 : decode cX6_speakersOf 17 = .ok (.iaload, 1) := by decide +kernel
theorem dX6_speakersOf_18 : decode cX6_speakersOf 18 = .ok (.iload_n 1, 1) := by decide +kernel
theorem dX6_speakersOf_19 : decode cX6_speakersOf 19 = .ok (.iand, 1) := by decide +kernel
theorem dX6_speakersOf_20 : decode cX6_speakersOf 20 = .ok (.ifCond .eq 10, 3) := by decide +kernel
theorem dX6_speakersOf_23 : decode cX6_speakersOf 23 = .ok (.iload_n 2, 1) := by decide +kernel
theorem dX6_speakersOf_24 : decode cX6_speakersOf 24 = .ok (.iload_n 3, 1) := by decide +kernel
theorem dX6_speakersOf_25 : decode cX6_speakersOf 25 = .ok (.invokestatic 51, 3) := by decide +kernel
theorem dX6_speakersOf_28 : decode cX6_speakersOf 28 = .ok (.ior, 1) := by decide +kernel
theorem dX6_speakersOf_29 : decode cX6_speakersOf 29 = .ok (.istore_n 2, 1) := by decide +kernel
theorem dX6_speakersOf_30 : decode cX6_speakersOf 30 = .ok (.iinc 3 1, 3) := by decide +kernel
theorem dX6_speakersOf_33 : decode cX6_speakersOf 33 = .ok (.goto (-29), 3) := by decide +kernel
theorem dX6_speakersOf_36 : decode cX6_speakersOf 36 = .ok (.iload_n 2, 1) := by decide +kernel
theorem dX6_speakersOf_37 : decode cX6_speakersOf 37 = .ok (.ireturn, 1) := by decide +kernel
theorem dX6_certifiedFor_0 : decode cX6_certifiedFor 0 = .ok (.iconst 0, 1) := by decide +kernel
theorem dX6_certifiedFor_1 : decode cX6_certifiedFor 1 = .ok (.istore_n 2, 1) := by decide +kernel
theorem dX6_certifiedFor_2 : decode cX6_certifiedFor 2 = .ok (.iconst 0, 1) := by decide +kernel
theorem dX6_certifiedFor_3 : decode cX6_certifiedFor 3 = .ok (.istore_n 3, 1) := by decide +kernel
theorem dX6_certifiedFor_4 : decode cX6_certifiedFor 4 = .ok (.iload_n 3, 1) := by decide +kernel
theorem dX6_certifiedFor_5 : decode cX6_certifiedFor 5 = .ok (.aload_n 0, 1) := by decide +kernel
theorem dX6_certifiedFor_6 : decode cX6_certifiedFor 6 = .ok (.getfield 30, 3) := by decide +kernel
theorem dX6_certifiedFor_9 : decode cX6_certifiedFor 9 = .ok (.if_icmp .ge 29, 3) := by decide +kernel
theorem dX6_certifiedFor_12 : decode cX6_certifiedFor 12 = .ok (.aload_n 0, 1) := by decide +kernel
theorem dX6_certifiedFor_13 : decode cX6_certifiedFor 13 = .ok (.getfield 15, 3) := by decide +kernel
theorem dX6_certifiedFor_16 : decode cX6_certifiedFor 16 = .ok (.iload_n 3, 1) := by decide +kernel
theorem dX6_certifiedFor_17 : decode cX6_certifiedFor 17 = .ok (.iaload, 1) := by decide +kernel
theorem dX6_certifiedFor_18 : decode cX6_certifiedFor 18 = .ok (.iload_n 1, 1) := by decide +kernel
theorem dX6_certifiedFor_19 : decode cX6_certifiedFor 19 = .ok (.ishr, 1) := by decide +kernel
theorem dX6_certifiedFor_20 : decode cX6_certifiedFor 20 = .ok (.iconst 1, 1) := by decide +kernel
theorem dX6_certifiedFor_21 : decode cX6_certifiedFor 21 = .ok (.iand, 1) := by decide +kernel
theorem dX6_certifiedFor_22 : decode cX6_certifiedFor 22 = .ok (.ifCond .eq 10, 3) := by decide +kernel
theorem dX6_certifiedFor_25 : decode cX6_certifiedFor 25 = .ok (.iload_n 2, 1) := by decide +kernel
theorem dX6_certifiedFor_26 : decode cX6_certifiedFor 26 = .ok (.iload_n 3, 1) := by decide +kernel
theorem dX6_certifiedFor_27 : decode cX6_certifiedFor 27 = .ok (.invokestatic 51, 3) := by decide +kernel
theorem dX6_certifiedFor_30 : decode cX6_certifiedFor 30 = .ok (.ior, 1) := by decide +kernel
theorem dX6_certifiedFor_31 : decode cX6_certifiedFor 31 = .ok (.istore_n 2, 1) := by decide +kernel
theorem dX6_certifiedFor_32 : decode cX6_certifiedFor 32 = .ok (.iinc 3 1, 3) := by decide +kernel
theorem dX6_certifiedFor_35 : decode cX6_certifiedFor 35 = .ok (.goto (-31), 3) := by decide +kernel
theorem dX6_certifiedFor_38 : decode cX6_certifiedFor 38 = .ok (.iload_n 2, 1) := by decide +kernel
theorem dX6_certifiedFor_39 : decode cX6_certifiedFor 39 = .ok (.ireturn, 1) := by decide +kernel
theorem dX6_tiredAbove_0 : decode cX6_tiredAbove 0 = .ok (.iconst 0, 1) := by decide +kernel
theorem dX6_tiredAbove_1 : decode cX6_tiredAbove 1 = .ok (.istore_n 2, 1) := by decide +kernel
theorem dX6_tiredAbove_2 : decode cX6_tiredAbove 2 = .ok (.iconst 0, 1) := by decide +kernel
theorem dX6_tiredAbove_3 : decode cX6_tiredAbove 3 = .ok (.istore_n 3, 1) := by decide +kernel
theorem dX6_tiredAbove_4 : decode cX6_tiredAbove 4 = .ok (.iload_n 3, 1) := by decide +kernel
theorem dX6_tiredAbove_5 : decode cX6_tiredAbove 5 = .ok (.aload_n 0, 1) := by decide +kernel
theorem dX6_tiredAbove_6 : decode cX6_tiredAbove 6 = .ok (.getfield 30, 3) := by decide +kernel
theorem dX6_tiredAbove_9 : decode cX6_tiredAbove 9 = .ok (.if_icmp .ge 26, 3) := by decide +kernel
theorem dX6_tiredAbove_12 : decode cX6_tiredAbove 12 = .ok (.aload_n 0, 1) := by decide +kernel
theorem dX6_tiredAbove_13 : decode cX6_tiredAbove 13 = .ok (.getfield 21, 3) := by decide +kernel
theorem dX6_tiredAbove_16 : decode cX6_tiredAbove 16 = .ok (.iload_n 3, 1) := by decide +kernel
theorem dX6_tiredAbove_17 : decode cX6_tiredAbove 17 = .ok (.iaload, 1) := by decide +kernel
theorem dX6_tiredAbove_18 : decode cX6_tiredAbove 18 = .ok (.iload_n 1, 1) := by decide +kernel
theorem dX6_tiredAbove_19 : decode cX6_tiredAbove 19 = .ok (.if_icmp .le 10, 3) := by decide +kernel
theorem dX6_tiredAbove_22 : decode cX6_tiredAbove 22 = .ok (.iload_n 2, 1) := by decide +kernel
theorem dX6_tiredAbove_23 : decode cX6_tiredAbove 23 = .ok (.iload_n 3, 1) := by decide +kernel
theorem dX6_tiredAbove_24 : decode cX6_tiredAbove 24 = .ok (.invokestatic 51, 3) := by decide +kernel
theorem dX6_tiredAbove_27 : decode cX6_tiredAbove 27 = .ok (.ior, 1) := by decide +kernel
theorem dX6_tiredAbove_28 : decode cX6_tiredAbove 28 = .ok (.istore_n 2, 1) := by decide +kernel
theorem dX6_tiredAbove_29 : decode cX6_tiredAbove 29 = .ok (.iinc 3 1, 3) := by decide +kernel
theorem dX6_tiredAbove_32 : decode cX6_tiredAbove 32 = .ok (.goto (-28), 3) := by decide +kernel
theorem dX6_tiredAbove_35 : decode cX6_tiredAbove 35 = .ok (.iload_n 2, 1) := by decide +kernel
theorem dX6_tiredAbove_36 : decode cX6_tiredAbove 36 = .ok (.ireturn, 1) := by decide +kernel
theorem dX6_work_0 : decode cX6_work 0 = .ok (.aload_n 0, 1) := by decide +kernel
theorem dX6_work_1 : decode cX6_work 1 = .ok (.iload_n 1, 1) := by decide +kernel
theorem dX6_work_2 : decode cX6_work 2 = .ok (.invokevirtual 40, 3) := by decide +kernel
theorem dX6_work_5 : decode cX6_work 5 = .ok (.ifCond .eq 33, 3) := by decide +kernel
theorem dX6_work_8 : decode cX6_work 8 = .ok (.aload_n 0, 1) := by decide +kernel
theorem dX6_work_9 : decode cX6_work 9 = .ok (.getfield 21, 3) := by decide +kernel
theorem dX6_work_12 : decode cX6_work 12 = .ok (.iload_n 1, 1) := by decide +kernel
theorem dX6_work_13 : decode cX6_work 13 = .ok (.sipush 1000, 3) := by decide +kernel
theorem dX6_work_16 : decode cX6_work 16 = .ok (.aload_n 0, 1) := by decide +kernel
theorem dX6_work_17 : decode cX6_work 17 = .ok (.getfield 21, 3) := by decide +kernel
theorem dX6_work_20 : decode cX6_work 20 = .ok (.iload_n 1, 1) := by decide +kernel
theorem dX6_work_21 : decode cX6_work 21 = .ok (.iaload, 1) := by decide +kernel
theorem dX6_work_22 : decode cX6_work 22 = .ok (.iload_n 2, 1) := by decide +kernel
theorem dX6_work_23 : decode cX6_work 23 = .ok (.iadd, 1) := by decide +kernel
theorem dX6_work_24 : decode cX6_work 24 = .ok (.invokestatic 55, 3) := by decide +kernel
theorem dX6_work_27 : decode cX6_work 27 = .ok (.iastore, 1) := by decide +kernel
theorem dX6_work_28 : decode cX6_work 28 = .ok (.aload_n 0, 1) := by decide +kernel
theorem dX6_work_29 : decode cX6_work 29 = .ok (.getfield 27, 3) := by decide +kernel
theorem dX6_work_32 : decode cX6_work 32 = .ok (.iload_n 1, 1) := by decide +kernel
theorem dX6_work_33 : decode cX6_work 33 = .ok (.dup2, 1) := by decide +kernel
theorem dX6_work_34 : decode cX6_work 34 = .ok (.iaload, 1) := by decide +kernel
theorem dX6_work_35 : decode cX6_work 35 = .ok (.iconst 1, 1) := by decide +kernel
theorem dX6_work_36 : decode cX6_work 36 = .ok (.iadd, 1) := by decide +kernel
theorem dX6_work_37 : decode cX6_work 37 = .ok (.iastore, 1) := by decide +kernel
theorem dX6_work_38 : decode cX6_work 38 = .ok (.return_, 1) := by decide +kernel
theorem dX6_rest_0 : decode cX6_rest 0 = .ok (.aload_n 0, 1) := by decide +kernel
theorem dX6_rest_1 : decode cX6_rest 1 = .ok (.iload_n 1, 1) := by decide +kernel
theorem dX6_rest_2 : decode cX6_rest 2 = .ok (.invokevirtual 40, 3) := by decide +kernel
theorem dX6_rest_5 : decode cX6_rest 5 = .ok (.ifCond .eq 21, 3) := by decide +kernel
theorem dX6_rest_8 : decode cX6_rest 8 = .ok (.aload_n 0, 1) := by decide +kernel
theorem dX6_rest_9 : decode cX6_rest 9 = .ok (.getfield 21, 3) := by decide +kernel
theorem dX6_rest_12 : decode cX6_rest 12 = .ok (.iload_n 1, 1) := by decide +kernel
theorem dX6_rest_13 : decode cX6_rest 13 = .ok (.iconst 0, 1) := by decide +kernel
theorem dX6_rest_14 : decode cX6_rest 14 = .ok (.aload_n 0, 1) := by decide +kernel
theorem dX6_rest_15 : decode cX6_rest 15 = .ok (.getfield 21, 3) := by decide +kernel
theorem dX6_rest_18 : decode cX6_rest 18 = .ok (.iload_n 1, 1) := by decide +kernel
theorem dX6_rest_19 : decode cX6_rest 19 = .ok (.iaload, 1) := by decide +kernel
theorem dX6_rest_20 : decode cX6_rest 20 = .ok (.iload_n 2, 1) := by decide +kernel
theorem dX6_rest_21 : decode cX6_rest 21 = .ok (.isub, 1) := by decide +kernel
theorem dX6_rest_22 : decode cX6_rest 22 = .ok (.invokestatic 61, 3) := by decide +kernel
theorem dX6_rest_25 : decode cX6_rest 25 = .ok (.iastore, 1) := by decide +kernel
theorem dX6_rest_26 : decode cX6_rest 26 = .ok (.return_, 1) := by decide +kernel
theorem dX6_pay_0 : decode cX6_pay 0 = .ok (.aload_n 0, 1) := by decide +kernel
theorem dX6_pay_1 : decode cX6_pay 1 = .ok (.iload_n 1, 1) := by decide +kernel
theorem dX6_pay_2 : decode cX6_pay 2 = .ok (.invokevirtual 40, 3) := by decide +kernel
theorem dX6_pay_5 : decode cX6_pay 5 = .ok (.ifCond .eq 13, 3) := by decide +kernel
theorem dX6_pay_8 : decode cX6_pay 8 = .ok (.aload_n 0, 1) := by decide +kernel
theorem dX6_pay_9 : decode cX6_pay 9 = .ok (.getfield 24, 3) := by decide +kernel
theorem dX6_pay_12 : decode cX6_pay 12 = .ok (.iload_n 1, 1) := by decide +kernel
theorem dX6_pay_13 : decode cX6_pay 13 = .ok (.dup2, 1) := by decide +kernel
theorem dX6_pay_14 : decode cX6_pay 14 = .ok (.iaload, 1) := by decide +kernel
theorem dX6_pay_15 : decode cX6_pay 15 = .ok (.iload_n 2, 1) := by decide +kernel
theorem dX6_pay_16 : decode cX6_pay 16 = .ok (.iadd, 1) := by decide +kernel
theorem dX6_pay_17 : decode cX6_pay 17 = .ok (.iastore, 1) := by decide +kernel
theorem dX6_pay_18 : decode cX6_pay 18 = .ok (.return_, 1) := by decide +kernel
theorem dX6_languagesWithoutChain_0 : decode cX6_languagesWithoutChain 0 = .ok (.iconst 1, 1) := by decide +kernel
theorem dX6_languagesWithoutChain_1 : decode cX6_languagesWithoutChain 1 = .ok (.istore_n 2, 1) := by decide +kernel
theorem dX6_languagesWithoutChain_2 : decode cX6_languagesWithoutChain 2 = .ok (.iconst 0, 1) := by decide +kernel
theorem dX6_languagesWithoutChain_3 : decode cX6_languagesWithoutChain 3 = .ok (.istore_n 3, 1) := by decide +kernel
theorem dX6_languagesWithoutChain_4 : decode cX6_languagesWithoutChain 4 = .ok (.iload_n 3, 1) := by decide +kernel
theorem dX6_languagesWithoutChain_5 : decode cX6_languagesWithoutChain 5 = .ok (.iconst 3, 1) := by decide +kernel
theorem dX6_languagesWithoutChain_6 : decode cX6_languagesWithoutChain 6 = .ok (.if_icmp .ge 16, 3) := by decide +kernel
theorem dX6_languagesWithoutChain_9 : decode cX6_languagesWithoutChain 9 = .ok (.aload_n 0, 1) := by decide +kernel
theorem dX6_languagesWithoutChain_10 : decode cX6_languagesWithoutChain 10 = .ok (.iload_n 2, 1) := by decide +kernel
theorem dX6_languagesWithoutChain_11 : decode cX6_languagesWithoutChain 11 = .ok (.iload_n 1, 1) := by decide +kernel
theorem dX6_languagesWithoutChain_12 : decode cX6_languagesWithoutChain 12 = .ok (.invokevirtual 64, 3) := by decide +kernel
theorem dX6_languagesWithoutChain_15 : decode cX6_languagesWithoutChain 15 = .ok (.istore_n 2, 1) := by decide +kernel
theorem dX6_languagesWithoutChain_16 : decode cX6_languagesWithoutChain 16 = .ok (.iinc 3 1, 3) := by decide +kernel
theorem dX6_languagesWithoutChain_19 : decode cX6_languagesWithoutChain 19 = .ok (.goto (-15), 3) := by decide +kernel
theorem dX6_languagesWithoutChain_22 : decode cX6_languagesWithoutChain 22 = .ok (.sipush 1022, 3) := by decide +kernel
theorem dX6_languagesWithoutChain_25 : decode cX6_languagesWithoutChain 25 = .ok (.iload_n 2, 1) := by decide +kernel
theorem dX6_languagesWithoutChain_26 : decode cX6_languagesWithoutChain 26 = .ok (.iconst (-1), 1) := by decide +kernel
theorem dX6_languagesWithoutChain_27 : decode cX6_languagesWithoutChain 27 = .ok (.ixor, 1) := by decide +kernel
theorem dX6_languagesWithoutChain_28 : decode cX6_languagesWithoutChain 28 = .ok (.iand, 1) := by decide +kernel
theorem dX6_languagesWithoutChain_29 : decode cX6_languagesWithoutChain 29 = .ok (.ireturn, 1) := by decide +kernel
theorem dX6_widened_0 : decode cX6_widened 0 = .ok (.iload_n 1, 1) := by decide +kernel
theorem dX6_widened_1 : decode cX6_widened 1 = .ok (.istore_n 3, 1) := by decide +kernel
theorem dX6_widened_2 : decode cX6_widened 2 = .ok (.iconst 0, 1) := by decide +kernel
theorem dX6_widened_3 : decode cX6_widened 3 = .ok (.istore 4, 2) := by decide +kernel
theorem dX6_widened_5 : decode cX6_widened 5 = .ok (.iload 4, 2) := by decide +kernel
theorem dX6_widened_7 : decode cX6_widened 7 = .ok (.aload_n 0, 1) := by decide +kernel
theorem dX6_widened_8 : decode cX6_widened 8 = .ok (.getfield 30, 3) := by decide +kernel
theorem dX6_widened_11 : decode cX6_widened 11 = .ok (.if_icmp .ge 45, 3) := by decide +kernel
theorem dX6_widened_14 : decode cX6_widened 14 = .ok (.aload_n 0, 1) := by decide +kernel
theorem dX6_widened_15 : decode cX6_widened 15 = .ok (.getfield 15, 3) := by decide +kernel
theorem dX6_widened_18 : decode cX6_widened 18 = .ok (.iload 4, 2) := by decide +kernel
theorem dX6_widened_20 : decode cX6_widened 20 = .ok (.iaload, 1) := by decide +kernel
theorem dX6_widened_21 : decode cX6_widened 21 = .ok (.iload_n 2, 1) := by decide +kernel
theorem dX6_widened_22 : decode cX6_widened 22 = .ok (.ishr, 1) := by decide +kernel
theorem dX6_widened_23 : decode cX6_widened 23 = .ok (.iconst 1, 1) := by decide +kernel
theorem dX6_widened_24 : decode cX6_widened 24 = .ok (.iand, 1) := by decide +kernel
theorem dX6_widened_25 : decode cX6_widened 25 = .ok (.ifCond .eq 25, 3) := by decide +kernel
theorem dX6_widened_28 : decode cX6_widened 28 = .ok (.aload_n 0, 1) := by decide +kernel
theorem dX6_widened_29 : decode cX6_widened 29 = .ok (.getfield 9, 3) := by decide +kernel
theorem dX6_widened_32 : decode cX6_widened 32 = .ok (.iload 4, 2) := by decide +kernel
theorem dX6_widened_34 : decode cX6_widened 34 = .ok (.iaload, 1) := by decide +kernel
theorem dX6_widened_35 : decode cX6_widened 35 = .ok (.iload_n 1, 1) := by decide +kernel
theorem dX6_widened_36 : decode cX6_widened 36 = .ok (.iand, 1) := by decide +kernel
theorem dX6_widened_37 : decode cX6_widened 37 = .ok (.ifCond .eq 13, 3) := by decide +kernel
theorem dX6_widened_40 : decode cX6_widened 40 = .ok (.iload_n 3, 1) := by decide +kernel
theorem dX6_widened_41 : decode cX6_widened 41 = .ok (.aload_n 0, 1) := by decide +kernel
theorem dX6_widened_42 : decode cX6_widened 42 = .ok (.getfield 9, 3) := by decide +kernel
theorem dX6_widened_45 : decode cX6_widened 45 = .ok (.iload 4, 2) := by decide +kernel
theorem dX6_widened_47 : decode cX6_widened 47 = .ok (.iaload, 1) := by decide +kernel
theorem dX6_widened_48 : decode cX6_widened 48 = .ok (.ior, 1) := by decide +kernel
theorem dX6_widened_49 : decode cX6_widened 49 = .ok (.istore_n 3, 1) := by decide +kernel
theorem dX6_widened_50 : decode cX6_widened 50 = .ok (.iinc 4 1, 3) := by decide +kernel
theorem dX6_widened_53 : decode cX6_widened 53 = .ok (.goto (-48), 3) := by decide +kernel
theorem dX6_widened_56 : decode cX6_widened 56 = .ok (.iload_n 3, 1) := by decide +kernel
theorem dX6_widened_57 : decode cX6_widened 57 = .ok (.ireturn, 1) := by decide +kernel
theorem dX7_init_0 : decode cX7_init 0 = .ok (.aload_n 0, 1) := by decide +kernel
theorem dX7_init_1 : decode cX7_init 1 = .ok (.invokespecial 1, 3) := by decide +kernel
theorem dX7_init_4 : decode cX7_init 4 = .ok (.aload_n 0, 1) := by decide +kernel
theorem dX7_init_5 : decode cX7_init 5 = .ok (.new 7, 3) := by decide +kernel
theorem dX7_init_8 : decode cX7_init 8 = .ok (.dup, 1) := by decide +kernel
theorem dX7_init_9 : decode cX7_init 9 = .ok (.invokespecial 9, 3) := by decide +kernel
theorem dX7_init_12 : decode cX7_init 12 = .ok (.putfield 10, 3) := by decide +kernel
theorem dX7_init_15 : decode cX7_init 15 = .ok (.aload_n 0, 1) := by decide +kernel
theorem dX7_init_16 : decode cX7_init 16 = .ok (.new 7, 3) := by decide +kernel
theorem dX7_init_19 : decode cX7_init 19 = .ok (.dup, 1) := by decide +kernel
theorem dX7_init_20 : decode cX7_init 20 = .ok (.invokespecial 9, 3) := by decide +kernel
theorem dX7_init_23 : decode cX7_init 23 = .ok (.putfield 16, 3) := by decide +kernel
theorem dX7_init_26 : decode cX7_init 26 = .ok (.aload_n 0, 1) := by decide +kernel
theorem dX7_init_27 : decode cX7_init 27 = .ok (.new 19, 3) := by decide +kernel
theorem dX7_init_30 : decode cX7_init 30 = .ok (.dup, 1) := by decide +kernel
theorem dX7_init_31 : decode cX7_init 31 = .ok (.invokespecial 21, 3) := by decide +kernel
theorem dX7_init_34 : decode cX7_init 34 = .ok (.putfield 22, 3) := by decide +kernel
theorem dX7_init_37 : decode cX7_init 37 = .ok (.aload_n 0, 1) := by decide +kernel
theorem dX7_init_38 : decode cX7_init 38 = .ok (.new 26, 3) := by decide +kernel
theorem dX7_init_41 : decode cX7_init 41 = .ok (.dup, 1) := by decide +kernel
theorem dX7_init_42 : decode cX7_init 42 = .ok (.invokespecial 28, 3) := by decide +kernel
theorem dX7_init_45 : decode cX7_init 45 = .ok (.putfield 29, 3) := by decide +kernel
theorem dX7_init_48 : decode cX7_init 48 = .ok (.aload_n 0, 1) := by decide +kernel
theorem dX7_init_49 : decode cX7_init 49 = .ok (.new 33, 3) := by decide +kernel
theorem dX7_init_52 : decode cX7_init 52 = .ok (.dup, 1) := by decide +kernel
theorem dX7_init_53 : decode cX7_init 53 = .ok (.invokespecial 35, 3) := by decide +kernel
theorem dX7_init_56 : decode cX7_init 56 = .ok (.putfield 36, 3) := by decide +kernel
theorem dX7_init_59 : decode cX7_init 59 = .ok (.aload_n 0, 1) := by decide +kernel
theorem dX7_init_60 : decode cX7_init 60 = .ok (.new 40, 3) := by decide +kernel
theorem dX7_init_63 : decode cX7_init 63 = .ok (.dup, 1) := by decide +kernel
theorem dX7_init_64 : decode cX7_init 64 = .ok (.invokespecial 42, 3) := by decide +kernel
theorem dX7_init_67 : decode cX7_init 67 = .ok (.putfield 43, 3) := by decide +kernel
theorem dX7_init_70 : decode cX7_init 70 = .ok (.return_, 1) := by decide +kernel
theorem dX7_addInterpreter_0 : decode cX7_addInterpreter 0 = .ok (.iload_n 1, 1) := by decide +kernel
theorem dX7_addInterpreter_1 : decode cX7_addInterpreter 1 = .ok (.iconst 1, 1) := by decide +kernel
theorem dX7_addInterpreter_2 : decode cX7_addInterpreter 2 = .ok (.sipush 1023, 3) := by decide +kernel
theorem dX7_addInterpreter_5 : decode cX7_addInterpreter 5 = .ok (.invokestatic 47, 3) := by decide +kernel
theorem dX7_addInterpreter_8 : decode cX7_addInterpreter 8 = .ok (.ifCond .eq 31, 3) := by decide +kernel
theorem dX7_addInterpreter_11 : decode cX7_addInterpreter 11 = .ok (.iload_n 1, 1) := by decide +kernel
theorem dX7_addInterpreter_12 : decode cX7_addInterpreter 12 = .ok (.invokestatic 51, 3) := by decide +kernel
theorem dX7_addInterpreter_15 : decode cX7_addInterpreter 15 = .ok (.iconst 2, 1) := by decide +kernel
theorem dX7_addInterpreter_16 : decode cX7_addInterpreter 16 = .ok (.if_icmp .lt 23, 3) := by decide +kernel
theorem dX7_addInterpreter_19 : decode cX7_addInterpreter 19 = .ok (.iload_n 2, 1) := by decide +kernel
theorem dX7_addInterpreter_20 : decode cX7_addInterpreter 20 = .ok (.iconst 0, 1) := by decide +kernel
theorem dX7_addInterpreter_21 : decode cX7_addInterpreter 21 = .ok (.bipush 7, 2) := by decide +kernel
theorem dX7_addInterpreter_23 : decode cX7_addInterpreter 23 = .ok (.invokestatic 47, 3) := by decide +kernel
theorem dX7_addInterpreter_26 : decode cX7_addInterpreter 26 = .ok (.ifCond .eq 13, 3) := by decide +kernel
theorem dX7_addInterpreter_29 : decode cX7_addInterpreter 29 = .ok (.iload_n 3, 1) := by decide +kernel
theorem dX7_addInterpreter_30 : decode cX7_addInterpreter 30 = .ok (.iconst 1, 1) := by decide +kernel
theorem dX7_addInterpreter_31 : decode cX7_addInterpreter 31 = .ok (.bipush 100, 2) := by decide +kernel
theorem dX7_addInterpreter_33 : decode cX7_addInterpreter 33 = .ok (.invokestatic 47, 3) := by decide +kernel
theorem dX7_addInterpreter_36 : decode cX7_addInterpreter 36 = .ok (.ifCond .ne 13, 3) := by decide +kernel
theorem dX7_addInterpreter_39 : decode cX7_addInterpreter 39 = .ok (.new 57, 3) := by decide +kernel
theorem dX7_addInterpreter_42 : decode cX7_addInterpreter 42 = .ok (.dup, 1) := by decide +kernel
theorem dX7_addInterpreter_43 : decode cX7_addInterpreter 43 = .ok (.ldc 59, 2) := by decide +kernel
theorem dX7_addInterpreter_45 : decode cX7_addInterpreter 45 = .ok (.invokespecial 61, 3) := by decide +kernel
theorem dX7_addInterpreter_48 : decode cX7_addInterpreter 48 = .ok (.athrow, 1) := by decide +kernel
theorem dX7_addInterpreter_49 : decode cX7_addInterpreter 49 = .ok (.aload_n 0, 1) := by decide +kernel
theorem dX7_addInterpreter_50 : decode cX7_addInterpreter 50 = .ok (.getfield 10, 3) := by decide +kernel
theorem dX7_addInterpreter_53 : decode cX7_addInterpreter 53 = .ok (.getfield 64, 3) := by decide +kernel
theorem dX7_addInterpreter_56 : decode cX7_addInterpreter 56 = .ok (.getfield 68, 3) := by decide +kernel
theorem dX7_addInterpreter_59 : decode cX7_addInterpreter 59 = .ok (.bipush 10, 2) := by decide +kernel
theorem dX7_addInterpreter_61 : decode cX7_addInterpreter 61 = .ok (.if_icmp .lt 13, 3) := by decide +kernel
theorem dX7_addInterpreter_64 : decode cX7_addInterpreter 64 = .ok (.new 74, 3) := by decide +kernel
theorem dX7_addInterpreter_67 : decode cX7_addInterpreter 67 = .ok (.dup, 1) := by decide +kernel
theorem dX7_addInterpreter_68 : decode cX7_addInterpreter 68 = .ok (.ldc 76, 2) := by decide +kernel
theorem dX7_addInterpreter_70 : decode cX7_addInterpreter 70 = .ok (.invokespecial 78, 3) := by decide +kernel
theorem dX7_addInterpreter_73 : decode cX7_addInterpreter 73 = .ok (.athrow, 1) := by decide +kernel
theorem dX7_addInterpreter_74 : decode cX7_addInterpreter 74 = .ok (.aload_n 0, 1) := by decide +kernel
theorem dX7_addInterpreter_75 : decode cX7_addInterpreter 75 = .ok (.getfield 22, 3) := by decide +kernel
theorem dX7_addInterpreter_78 : decode cX7_addInterpreter 78 = .ok (.aload_n 0, 1) := by decide +kernel
theorem dX7_addInterpreter_79 : decode cX7_addInterpreter 79 = .ok (.getfield 10, 3) := by decide +kernel
theorem dX7_addInterpreter_82 : decode cX7_addInterpreter 82 = .ok (.invokevirtual 79, 3) := by decide +kernel
theorem dX7_addInterpreter_85 : decode cX7_addInterpreter 85 = .ok (.aload_n 0, 1) := by decide +kernel
theorem dX7_addInterpreter_86 : decode cX7_addInterpreter 86 = .ok (.getfield 10, 3) := by decide +kernel
theorem dX7_addInterpreter_89 : decode cX7_addInterpreter 89 = .ok (.getfield 64, 3) := by decide +kernel
theorem dX7_addInterpreter_92 : decode cX7_addInterpreter 92 = .ok (.iload_n 1, 1) := by decide +kernel
theorem dX7_addInterpreter_93 : decode cX7_addInterpreter 93 = .ok (.iload_n 2, 1) := by decide +kernel
theorem dX7_addInterpreter_94 : decode cX7_addInterpreter 94 = .ok (.iload_n 3, 1) := by decide +kernel
theorem dX7_addInterpreter_95 : decode cX7_addInterpreter 95 = .ok (.invokevirtual 83, 3) := by decide +kernel
theorem dX7_addInterpreter_98 : decode cX7_addInterpreter 98 = .ok (.ireturn, 1) := by decide +kernel
theorem dX7_addHearing_0 : decode cX7_addHearing 0 = .ok (.iload_n 1, 1) := by decide +kernel
theorem dX7_addHearing_1 : decode cX7_addHearing 1 = .ok (.iconst 0, 1) := by decide +kernel
theorem dX7_addHearing_2 : decode cX7_addHearing 2 = .ok (.iconst 2, 1) := by decide +kernel
theorem dX7_addHearing_3 : decode cX7_addHearing 3 = .ok (.invokestatic 47, 3) := by decide +kernel
theorem dX7_addHearing_6 : decode cX7_addHearing 6 = .ok (.ifCond .eq 37, 3) := by decide +kernel
theorem dX7_addHearing_9 : decode cX7_addHearing 9 = .ok (.iload_n 2, 1) := by decide +kernel
theorem dX7_addHearing_10 : decode cX7_addHearing 10 = .ok (.iconst 1, 1) := by decide +kernel
theorem dX7_addHearing_11 : decode cX7_addHearing 11 = .ok (.bipush 9, 2) := by decide +kernel
theorem dX7_addHearing_13 : decode cX7_addHearing 13 = .ok (.invokestatic 47, 3) := by decide +kernel
theorem dX7_addHearing_16 : decode cX7_addHearing 16 = .ok (.ifCond .eq 27, 3) := by decide +kernel
theorem dX7_addHearing_19 : decode cX7_addHearing 19 = .ok (.iload_n 3, 1) := by decide +kernel
theorem dX7_addHearing_20 : decode cX7_addHearing 20 = .ok (.iconst 1, 1) := by decide +kernel
theorem dX7_addHearing_21 : decode cX7_addHearing 21 = .ok (.sipush 2000, 3) := by decide +kernel
theorem dX7_addHearing_24 : decode cX7_addHearing 24 = .ok (.invokestatic 47, 3) := by decide +kernel
theorem dX7_addHearing_27 : decode cX7_addHearing 27 = .ok (.ifCond .eq 16, 3) := by decide +kernel
theorem dX7_addHearing_30 : decode cX7_addHearing 30 = .ok (.iload 4, 2) := by decide +kernel
theorem dX7_addHearing_32 : decode cX7_addHearing 32 = .ok (.bipush 10, 2) := by decide +kernel
theorem dX7_addHearing_34 : decode cX7_addHearing 34 = .ok (.sipush 240, 3) := by decide +kernel
theorem dX7_addHearing_37 : decode cX7_addHearing 37 = .ok (.invokestatic 47, 3) := by decide +kernel
theorem dX7_addHearing_40 : decode cX7_addHearing 40 = .ok (.ifCond .ne 13, 3) := by decide +kernel
theorem dX7_addHearing_43 : decode cX7_addHearing 43 = .ok (.new 57, 3) := by decide +kernel
theorem dX7_addHearing_46 : decode cX7_addHearing 46 = .ok (.dup, 1) := by decide +kernel
theorem dX7_addHearing_47 : decode cX7_addHearing 47 = .ok (.ldc 87, 2) := by decide +kernel
theorem dX7_addHearing_49 : decode cX7_addHearing 49 = .ok (.invokespecial 61, 3) := by decide +kernel
theorem dX7_addHearing_52 : decode cX7_addHearing 52 = .ok (.athrow, 1) := by decide +kernel
theorem dX7_addHearing_53 : decode cX7_addHearing 53 = .ok (.aload_n 0, 1) := by decide +kernel
theorem dX7_addHearing_54 : decode cX7_addHearing 54 = .ok (.getfield 10, 3) := by decide +kernel
theorem dX7_addHearing_57 : decode cX7_addHearing 57 = .ok (.getfield 89, 3) := by decide +kernel
theorem dX7_addHearing_60 : decode cX7_addHearing 60 = .ok (.getfield 93, 3) := by decide +kernel
theorem dX7_addHearing_63 : decode cX7_addHearing 63 = .ok (.bipush 30, 2) := by decide +kernel
theorem dX7_addHearing_65 : decode cX7_addHearing 65 = .ok (.if_icmp .lt 13, 3) := by decide +kernel
theorem dX7_addHearing_68 : decode cX7_addHearing 68 = .ok (.new 74, 3) := by decide +kernel
theorem dX7_addHearing_71 : decode cX7_addHearing 71 = .ok (.dup, 1) := by decide +kernel
theorem dX7_addHearing_72 : decode cX7_addHearing 72 = .ok (.ldc 96, 2) := by decide +kernel
theorem dX7_addHearing_74 : decode cX7_addHearing 74 = .ok (.invokespecial 78, 3) := by decide +kernel
theorem dX7_addHearing_77 : decode cX7_addHearing 77 = .ok (.athrow, 1) := by decide +kernel
theorem dX7_addHearing_78 : decode cX7_addHearing 78 = .ok (.aload_n 0, 1) := by decide +kernel
theorem dX7_addHearing_79 : decode cX7_addHearing 79 = .ok (.getfield 22, 3) := by decide +kernel
theorem dX7_addHearing_82 : decode cX7_addHearing 82 = .ok (.aload_n 0, 1) := by decide +kernel
theorem dX7_addHearing_83 : decode cX7_addHearing 83 = .ok (.getfield 10, 3) := by decide +kernel
theorem dX7_addHearing_86 : decode cX7_addHearing 86 = .ok (.invokevirtual 79, 3) := by decide +kernel
theorem dX7_addHearing_89 : decode cX7_addHearing 89 = .ok (.aload_n 0, 1) := by decide +kernel
theorem dX7_addHearing_90 : decode cX7_addHearing 90 = .ok (.getfield 10, 3) := by decide +kernel
theorem dX7_addHearing_93 : decode cX7_addHearing 93 = .ok (.getfield 89, 3) := by decide +kernel
theorem dX7_addHearing_96 : decode cX7_addHearing 96 = .ok (.iload_n 1, 1) := by decide +kernel
theorem dX7_addHearing_97 : decode cX7_addHearing 97 = .ok (.iload_n 2, 1) := by decide +kernel
theorem dX7_addHearing_98 : decode cX7_addHearing 98 = .ok (.aload_n 0, 1) := by decide +kernel
theorem dX7_addHearing_99 : decode cX7_addHearing 99 = .ok (.getfield 10, 3) := by decide +kernel
theorem dX7_addHearing_102 : decode cX7_addHearing 102 = .ok (.getfield 98, 3) := by decide +kernel
theorem dX7_addHearing_105 : decode cX7_addHearing 105 = .ok (.iload_n 3, 1) := by decide +kernel
theorem dX7_addHearing_106 : decode cX7_addHearing 106 = .ok (.iadd, 1) := by decide +kernel
theorem dX7_addHearing_107 : decode cX7_addHearing 107 = .ok (.iload 4, 2) := by decide +kernel
theorem dX7_addHearing_109 : decode cX7_addHearing 109 = .ok (.invokevirtual 101, 3) := by decide +kernel
theorem dX7_addHearing_112 : decode cX7_addHearing 112 = .ok (.ireturn, 1) := by decide +kernel
theorem dX7_certify_0 : decode cX7_certify 0 = .ok (.aload_n 0, 1) := by decide +kernel
theorem dX7_certify_1 : decode cX7_certify 1 = .ok (.getfield 10, 3) := by decide +kernel
theorem dX7_certify_4 : decode cX7_certify 4 = .ok (.getfield 64, 3) := by decide +kernel
theorem dX7_certify_7 : decode cX7_certify 7 = .ok (.iload_n 1, 1) := by decide +kernel
theorem dX7_certify_8 : decode cX7_certify 8 = .ok (.invokevirtual 105, 3) := by decide +kernel
theorem dX7_certify_11 : decode cX7_certify 11 = .ok (.ifCond .ne 13, 3) := by decide +kernel
theorem dX7_certify_14 : decode cX7_certify 14 = .ok (.new 109, 3) := by decide +kernel
theorem dX7_certify_17 : decode cX7_certify 17 = .ok (.dup, 1) := by decide +kernel
theorem dX7_certify_18 : decode cX7_certify 18 = .ok (.ldc 111, 2) := by decide +kernel
theorem dX7_certify_20 : decode cX7_certify 20 = .ok (.invokespecial 113, 3) := by decide +kernel
theorem dX7_certify_23 : decode cX7_certify 23 = .ok (.athrow, 1) := by decide +kernel
theorem dX7_certify_24 : decode cX7_certify 24 = .ok (.iload_n 2, 1) := by decide +kernel
theorem dX7_certify_25 : decode cX7_certify 25 = .ok (.iconst 0, 1) := by decide +kernel
theorem dX7_certify_26 : decode cX7_certify 26 = .ok (.bipush 7, 2) := by decide +kernel
theorem dX7_certify_28 : decode cX7_certify 28 = .ok (.invokestatic 47, 3) := by decide +kernel
theorem dX7_certify_31 : decode cX7_certify 31 = .ok (.ifCond .ne 13, 3) := by decide +kernel
theorem dX7_certify_34 : decode cX7_certify 34 = .ok (.new 57, 3) := by decide +kernel
theorem dX7_certify_37 : decode cX7_certify 37 = .ok (.dup, 1) := by decide +kernel
theorem dX7_certify_38 : decode cX7_certify 38 = .ok (.ldc 114, 2) := by decide +kernel
theorem dX7_certify_40 : decode cX7_certify 40 = .ok (.invokespecial 61, 3) := by decide +kernel
theorem dX7_certify_43 : decode cX7_certify 43 = .ok (.athrow, 1) := by decide +kernel
theorem dX7_certify_44 : decode cX7_certify 44 = .ok (.aload_n 0, 1) := by decide +kernel
theorem dX7_certify_45 : decode cX7_certify 45 = .ok (.getfield 22, 3) := by decide +kernel
theorem dX7_certify_48 : decode cX7_certify 48 = .ok (.aload_n 0, 1) := by decide +kernel
theorem dX7_certify_49 : decode cX7_certify 49 = .ok (.getfield 10, 3) := by decide +kernel
theorem dX7_certify_52 : decode cX7_certify 52 = .ok (.invokevirtual 79, 3) := by decide +kernel
theorem dX7_certify_55 : decode cX7_certify 55 = .ok (.aload_n 0, 1) := by decide +kernel
theorem dX7_certify_56 : decode cX7_certify 56 = .ok (.getfield 10, 3) := by decide +kernel
theorem dX7_certify_59 : decode cX7_certify 59 = .ok (.getfield 64, 3) := by decide +kernel
theorem dX7_certify_62 : decode cX7_certify 62 = .ok (.getfield 116, 3) := by decide +kernel
theorem dX7_certify_65 : decode cX7_certify 65 = .ok (.iload_n 1, 1) := by decide +kernel
theorem dX7_certify_66 : decode cX7_certify 66 = .ok (.iaload, 1) := by decide +kernel
theorem dX7_certify_67 : decode cX7_certify 67 = .ok (.istore_n 3, 1) := by decide +kernel
theorem dX7_certify_68 : decode cX7_certify 68 = .ok (.aload_n 0, 1) := by decide +kernel
theorem dX7_certify_69 : decode cX7_certify 69 = .ok (.getfield 10, 3) := by decide +kernel
theorem dX7_certify_72 : decode cX7_certify 72 = .ok (.getfield 64, 3) := by decide +kernel
theorem dX7_certify_75 : decode cX7_certify 75 = .ok (.getfield 116, 3) := by decide +kernel
theorem dX7_certify_78 : decode cX7_certify 78 = .ok (.iload_n 1, 1) := by decide +kernel
theorem dX7_certify_79 : decode cX7_certify 79 = .ok (.iload_n 2, 1) := by decide +kernel
theorem dX7_certify_80 : decode cX7_certify 80 = .ok (.iastore, 1) := by decide +kernel
theorem dX7_certify_81 : decode cX7_certify 81 = .ok (.iload_n 3, 1) := by decide +kernel
theorem dX7_certify_82 : decode cX7_certify 82 = .ok (.ireturn, 1) := by decide +kernel
theorem dX7_set_0 : decode cX7_set 0 = .ok (.iload_n 1, 1) := by decide +kernel
theorem dX7_set_1 : decode cX7_set 1 = .ok (.invokestatic 120, 3) := by decide +kernel
theorem dX7_set_4 : decode cX7_set 4 = .ok (.ifCond .ne 13, 3) := by decide +kernel
theorem dX7_set_7 : decode cX7_set 7 = .ok (.new 109, 3) := by decide +kernel
theorem dX7_set_10 : decode cX7_set 10 = .ok (.dup, 1) := by decide +kernel
theorem dX7_set_11 : decode cX7_set 11 = .ok (.ldc 123, 2) := by decide +kernel
theorem dX7_set_13 : decode cX7_set 13 = .ok (.invokespecial 113, 3) := by decide +kernel
theorem dX7_set_16 : decode cX7_set 16 = .ok (.athrow, 1) := by decide +kernel
theorem dX7_set_17 : decode cX7_set 17 = .ok (.iload_n 2, 1) := by decide +kernel
theorem dX7_set_18 : decode cX7_set 18 = .ok (.iconst 0, 1) := by decide +kernel
theorem dX7_set_19 : decode cX7_set 19 = .ok (.getstatic 125, 3) := by decide +kernel
theorem dX7_set_22 : decode cX7_set 22 = .ok (.iload_n 1, 1) := by decide +kernel
theorem dX7_set_23 : decode cX7_set 23 = .ok (.iaload, 1) := by decide +kernel
theorem dX7_set_24 : decode cX7_set 24 = .ok (.invokestatic 47, 3) := by decide +kernel
theorem dX7_set_27 : decode cX7_set 27 = .ok (.ifCond .ne 13, 3) := by decide +kernel
theorem dX7_set_30 : decode cX7_set 30 = .ok (.new 57, 3) := by decide +kernel
theorem dX7_set_33 : decode cX7_set 33 = .ok (.dup, 1) := by decide +kernel
theorem dX7_set_34 : decode cX7_set 34 = .ok (.ldc 128, 2) := by decide +kernel
theorem dX7_set_36 : decode cX7_set 36 = .ok (.invokespecial 61, 3) := by decide +kernel
theorem dX7_set_39 : decode cX7_set 39 = .ok (.athrow, 1) := by decide +kernel
theorem dX7_set_40 : decode cX7_set 40 = .ok (.aload_n 0, 1) := by decide +kernel
theorem dX7_set_41 : decode cX7_set 41 = .ok (.getfield 22, 3) := by decide +kernel
theorem dX7_set_44 : decode cX7_set 44 = .ok (.aload_n 0, 1) := by decide +kernel
theorem dX7_set_45 : decode cX7_set 45 = .ok (.getfield 10, 3) := by decide +kernel
theorem dX7_set_48 : decode cX7_set 48 = .ok (.invokevirtual 79, 3) := by decide +kernel
theorem dX7_set_51 : decode cX7_set 51 = .ok (.aload_n 0, 1) := by decide +kernel
theorem dX7_set_52 : decode cX7_set 52 = .ok (.getfield 10, 3) := by decide +kernel
theorem dX7_set_55 : decode cX7_set 55 = .ok (.getfield 130, 3) := by decide +kernel
theorem dX7_set_58 : decode cX7_set 58 = .ok (.iload_n 1, 1) := by decide +kernel
theorem dX7_set_59 : decode cX7_set 59 = .ok (.iaload, 1) := by decide +kernel
theorem dX7_set_60 : decode cX7_set 60 = .ok (.istore_n 3, 1) := by decide +kernel
theorem dX7_set_61 : decode cX7_set 61 = .ok (.aload_n 0, 1) := by decide +kernel
theorem dX7_set_62 : decode cX7_set 62 = .ok (.getfield 10, 3) := by decide +kernel
theorem dX7_set_65 : decode cX7_set 65 = .ok (.getfield 130, 3) := by decide +kernel
theorem dX7_set_68 : decode cX7_set 68 = .ok (.iload_n 1, 1) := by decide +kernel
theorem dX7_set_69 : decode cX7_set 69 = .ok (.iload_n 2, 1) := by decide +kernel
theorem dX7_set_70 : decode cX7_set 70 = .ok (.iastore, 1) := by decide +kernel
theorem dX7_set_71 : decode cX7_set 71 = .ok (.iload_n 3, 1) := by decide +kernel
theorem dX7_set_72 : decode cX7_set 72 = .ok (.ireturn, 1) := by decide +kernel
theorem dX7_assign_0 : decode cX7_assign 0 = .ok (.aload_n 0, 1) := by decide +kernel
theorem dX7_assign_1 : decode cX7_assign 1 = .ok (.getfield 10, 3) := by decide +kernel
theorem dX7_assign_4 : decode cX7_assign 4 = .ok (.getfield 89, 3) := by decide +kernel
theorem dX7_assign_7 : decode cX7_assign 7 = .ok (.iload_n 1, 1) := by decide +kernel
theorem dX7_assign_8 : decode cX7_assign 8 = .ok (.invokevirtual 133, 3) := by decide +kernel
theorem dX7_assign_11 : decode cX7_assign 11 = .ok (.ifCond .eq 14, 3) := by decide +kernel
theorem dX7_assign_14 : decode cX7_assign 14 = .ok (.aload_n 0, 1) := by decide +kernel
theorem dX7_assign_15 : decode cX7_assign 15 = .ok (.iload_n 2, 1) := by decide +kernel
theorem dX7_assign_16 : decode cX7_assign 16 = .ok (.iload_n 3, 1) := by decide +kernel
theorem dX7_assign_17 : decode cX7_assign 17 = .ok (.iload 4, 2) := by decide +kernel
theorem dX7_assign_19 : decode cX7_assign 19 = .ok (.invokevirtual 134, 3) := by decide +kernel
theorem dX7_assign_22 : decode cX7_assign 22 = .ok (.ifCond .ne 13, 3) := by decide +kernel
theorem dX7_assign_25 : decode cX7_assign 25 = .ok (.new 109, 3) := by decide +kernel
theorem dX7_assign_28 : decode cX7_assign 28 = .ok (.dup, 1) := by decide +kernel
theorem dX7_assign_29 : decode cX7_assign 29 = .ok (.ldc 137, 2) := by decide +kernel
theorem dX7_assign_31 : decode cX7_assign 31 = .ok (.invokespecial 113, 3) := by decide +kernel
theorem dX7_assign_34 : decode cX7_assign 34 = .ok (.athrow, 1) := by decide +kernel
theorem dX7_assign_35 : decode cX7_assign 35 = .ok (.iload_n 2, 1) := by decide +kernel
theorem dX7_assign_36 : decode cX7_assign 36 = .ok (.iload_n 3, 1) := by decide +kernel
theorem dX7_assign_37 : decode cX7_assign 37 = .ok (.iload 4, 2) := by decide +kernel
theorem dX7_assign_39 : decode cX7_assign 39 = .ok (.invokestatic 139, 3) := by decide +kernel
theorem dX7_assign_42 : decode cX7_assign 42 = .ok (.ifCond .ne 13, 3) := by decide +kernel
theorem dX7_assign_45 : decode cX7_assign 45 = .ok (.new 57, 3) := by decide +kernel
theorem dX7_assign_48 : decode cX7_assign 48 = .ok (.dup, 1) := by decide +kernel
theorem dX7_assign_49 : decode cX7_assign 49 = .ok (.ldc 142, 2) := by decide +kernel
theorem dX7_assign_51 : decode cX7_assign 51 = .ok (.invokespecial 61, 3) := by decide +kernel
theorem dX7_assign_54 : decode cX7_assign 54 = .ok (.athrow, 1) := by decide +kernel
theorem dX7_assign_55 : decode cX7_assign 55 = .ok (.aload_n 0, 1) := by decide +kernel
theorem dX7_assign_56 : decode cX7_assign 56 = .ok (.getfield 10, 3) := by decide +kernel
theorem dX7_assign_59 : decode cX7_assign 59 = .ok (.iload_n 1, 1) := by decide +kernel
theorem dX7_assign_60 : decode cX7_assign 60 = .ok (.iload_n 2, 1) := by decide +kernel
theorem dX7_assign_61 : decode cX7_assign 61 = .ok (.iload_n 3, 1) := by decide +kernel
theorem dX7_assign_62 : decode cX7_assign 62 = .ok (.iload 4, 2) := by decide +kernel
theorem dX7_assign_64 : decode cX7_assign 64 = .ok (.invokevirtual 144, 3) := by decide +kernel
theorem dX7_assign_67 : decode cX7_assign 67 = .ok (.ifCond .eq 13, 3) := by decide +kernel
theorem dX7_assign_70 : decode cX7_assign 70 = .ok (.new 74, 3) := by decide +kernel
theorem dX7_assign_73 : decode cX7_assign 73 = .ok (.dup, 1) := by decide +kernel
theorem dX7_assign_74 : decode cX7_assign 74 = .ok (.ldc 147, 2) := by decide +kernel
theorem dX7_assign_76 : decode cX7_assign 76 = .ok (.invokespecial 78, 3) := by decide +kernel
theorem dX7_assign_79 : decode cX7_assign 79 = .ok (.athrow, 1) := by decide +kernel
theorem dX7_assign_80 : decode cX7_assign 80 = .ok (.aload_n 0, 1) := by decide +kernel
theorem dX7_assign_81 : decode cX7_assign 81 = .ok (.getfield 22, 3) := by decide +kernel
theorem dX7_assign_84 : decode cX7_assign 84 = .ok (.aload_n 0, 1) := by decide +kernel
theorem dX7_assign_85 : decode cX7_assign 85 = .ok (.getfield 10, 3) := by decide +kernel
theorem dX7_assign_88 : decode cX7_assign 88 = .ok (.invokevirtual 79, 3) := by decide +kernel
theorem dX7_assign_91 : decode cX7_assign 91 = .ok (.aload_n 0, 1) := by decide +kernel
theorem dX7_assign_92 : decode cX7_assign 92 = .ok (.getfield 10, 3) := by decide +kernel
theorem dX7_assign_95 : decode cX7_assign 95 = .ok (.getfield 89, 3) := by decide +kernel
theorem dX7_assign_98 : decode cX7_assign 98 = .ok (.iload_n 1, 1) := by decide +kernel
theorem dX7_assign_99 : decode cX7_assign 99 = .ok (.iload_n 2, 1) := by decide +kernel
theorem dX7_assign_100 : decode cX7_assign 100 = .ok (.iload_n 3, 1) := by decide +kernel
theorem dX7_assign_101 : decode cX7_assign 101 = .ok (.iload 4, 2) := by decide +kernel
theorem dX7_assign_103 : decode cX7_assign 103 = .ok (.invokevirtual 149, 3) := by decide +kernel
theorem dX7_assign_106 : decode cX7_assign 106 = .ok (.aload_n 0, 1) := by decide +kernel
theorem dX7_assign_107 : decode cX7_assign 107 = .ok (.getfield 10, 3) := by decide +kernel
theorem dX7_assign_110 : decode cX7_assign 110 = .ok (.iload_n 1, 1) := by decide +kernel
theorem dX7_assign_111 : decode cX7_assign 111 = .ok (.iconst 2, 1) := by decide +kernel
theorem dX7_assign_112 : decode cX7_assign 112 = .ok (.invokevirtual 153, 3) := by decide +kernel
theorem dX7_assign_115 : decode cX7_assign 115 = .ok (.ireturn, 1) := by decide +kernel
theorem dX7_release_0 : decode cX7_release 0 = .ok (.aload_n 0, 1) := by decide +kernel
theorem dX7_release_1 : decode cX7_release 1 = .ok (.getfield 10, 3) := by decide +kernel
theorem dX7_release_4 : decode cX7_release 4 = .ok (.getfield 89, 3) := by decide +kernel
theorem dX7_release_7 : decode cX7_release 7 = .ok (.iload_n 1, 1) := by decide +kernel
theorem dX7_release_8 : decode cX7_release 8 = .ok (.invokevirtual 133, 3) := by decide +kernel
theorem dX7_release_11 : decode cX7_release 11 = .ok (.ifCond .ne 13, 3) := by decide +kernel
theorem dX7_release_14 : decode cX7_release 14 = .ok (.new 109, 3) := by decide +kernel
theorem dX7_release_17 : decode cX7_release 17 = .ok (.dup, 1) := by decide +kernel
theorem dX7_release_18 : decode cX7_release 18 = .ok (.ldc 157, 2) := by decide +kernel
theorem dX7_release_20 : decode cX7_release 20 = .ok (.invokespecial 113, 3) := by decide +kernel
theorem dX7_release_23 : decode cX7_release 23 = .ok (.athrow, 1) := by decide +kernel
theorem dX7_release_24 : decode cX7_release 24 = .ok (.aload_n 0, 1) := by decide +kernel
theorem dX7_release_25 : decode cX7_release 25 = .ok (.getfield 10, 3) := by decide +kernel
theorem dX7_release_28 : decode cX7_release 28 = .ok (.iload_n 1, 1) := by decide +kernel
theorem dX7_release_29 : decode cX7_release 29 = .ok (.invokevirtual 159, 3) := by decide +kernel
theorem dX7_release_32 : decode cX7_release 32 = .ok (.ifCond .ne 13, 3) := by decide +kernel
theorem dX7_release_35 : decode cX7_release 35 = .ok (.new 74, 3) := by decide +kernel
theorem dX7_release_38 : decode cX7_release 38 = .ok (.dup, 1) := by decide +kernel
theorem dX7_release_39 : decode cX7_release 39 = .ok (.ldc 162, 2) := by decide +kernel
theorem dX7_release_41 : decode cX7_release 41 = .ok (.invokespecial 78, 3) := by decide +kernel
theorem dX7_release_44 : decode cX7_release 44 = .ok (.athrow, 1) := by decide +kernel
theorem dX7_release_45 : decode cX7_release 45 = .ok (.aload_n 0, 1) := by decide +kernel
theorem dX7_release_46 : decode cX7_release 46 = .ok (.getfield 22, 3) := by decide +kernel
theorem dX7_release_49 : decode cX7_release 49 = .ok (.aload_n 0, 1) := by decide +kernel
theorem dX7_release_50 : decode cX7_release 50 = .ok (.getfield 10, 3) := by decide +kernel
theorem dX7_release_53 : decode cX7_release 53 = .ok (.invokevirtual 79, 3) := by decide +kernel
theorem dX7_release_56 : decode cX7_release 56 = .ok (.aload_n 0, 1) := by decide +kernel
theorem dX7_release_57 : decode cX7_release 57 = .ok (.getfield 10, 3) := by decide +kernel
theorem dX7_release_60 : decode cX7_release 60 = .ok (.getfield 89, 3) := by decide +kernel
theorem dX7_release_63 : decode cX7_release 63 = .ok (.getfield 164, 3) := by decide +kernel
theorem dX7_release_66 : decode cX7_release 66 = .ok (.iload_n 1, 1) := by decide +kernel
theorem dX7_release_67 : decode cX7_release 67 = .ok (.iaload, 1) := by decide +kernel
theorem dX7_release_68 : decode cX7_release 68 = .ok (.istore_n 2, 1) := by decide +kernel
theorem dX7_release_69 : decode cX7_release 69 = .ok (.aload_n 0, 1) := by decide +kernel
theorem dX7_release_70 : decode cX7_release 70 = .ok (.getfield 10, 3) := by decide +kernel
theorem dX7_release_73 : decode cX7_release 73 = .ok (.getfield 89, 3) := by decide +kernel
theorem dX7_release_76 : decode cX7_release 76 = .ok (.iload_n 1, 1) := by decide +kernel
theorem dX7_release_77 : decode cX7_release 77 = .ok (.iconst (-1), 1) := by decide +kernel
theorem dX7_release_78 : decode cX7_release 78 = .ok (.iconst (-1), 1) := by decide +kernel
theorem dX7_release_79 : decode cX7_release 79 = .ok (.iconst (-1), 1) := by decide +kernel
theorem dX7_release_80 : decode cX7_release 80 = .ok (.invokevirtual 149, 3) := by decide +kernel
theorem dX7_release_83 : decode cX7_release 83 = .ok (.iload_n 2, 1) := by decide +kernel
theorem dX7_release_84 : decode cX7_release 84 = .ok (.ireturn, 1) := by decide +kernel
theorem dX7_swap_0 : decode cX7_swap 0 = .ok (.aload_n 0, 1) := by decide +kernel
theorem dX7_swap_1 : decode cX7_swap 1 = .ok (.getfield 10, 3) := by decide +kernel
theorem dX7_swap_4 : decode cX7_swap 4 = .ok (.getfield 89, 3) := by decide +kernel
theorem dX7_swap_7 : decode cX7_swap 7 = .ok (.iload_n 1, 1) := by decide +kernel
theorem dX7_swap_8 : decode cX7_swap 8 = .ok (.invokevirtual 133, 3) := by decide +kernel
theorem dX7_swap_11 : decode cX7_swap 11 = .ok (.ifCond .eq 39, 3) := by decide +kernel
theorem dX7_swap_14 : decode cX7_swap 14 = .ok (.iload_n 2, 1) := by decide +kernel
theorem dX7_swap_15 : decode cX7_swap 15 = .ok (.iconst 0, 1) := by decide +kernel
theorem dX7_swap_16 : decode cX7_swap 16 = .ok (.aload_n 0, 1) := by decide +kernel
theorem dX7_swap_17 : decode cX7_swap 17 = .ok (.getfield 10, 3) := by decide +kernel
theorem dX7_swap_20 : decode cX7_swap 20 = .ok (.getfield 89, 3) := by decide +kernel
theorem dX7_swap_23 : decode cX7_swap 23 = .ok (.getfield 164, 3) := by decide +kernel
theorem dX7_swap_26 : decode cX7_swap 26 = .ok (.iload_n 1, 1) := by decide +kernel
theorem dX7_swap_27 : decode cX7_swap 27 = .ok (.iaload, 1) := by decide +kernel
theorem dX7_swap_28 : decode cX7_swap 28 = .ok (.iconst 1, 1) := by decide +kernel
theorem dX7_swap_29 : decode cX7_swap 29 = .ok (.isub, 1) := by decide +kernel
theorem dX7_swap_30 : decode cX7_swap 30 = .ok (.invokestatic 47, 3) := by decide +kernel
theorem dX7_swap_33 : decode cX7_swap 33 = .ok (.ifCond .eq 17, 3) := by decide +kernel
theorem dX7_swap_36 : decode cX7_swap 36 = .ok (.aload_n 0, 1) := by decide +kernel
theorem dX7_swap_37 : decode cX7_swap 37 = .ok (.getfield 10, 3) := by decide +kernel
theorem dX7_swap_40 : decode cX7_swap 40 = .ok (.getfield 64, 3) := by decide +kernel
theorem dX7_swap_43 : decode cX7_swap 43 = .ok (.iload_n 3, 1) := by decide +kernel
theorem dX7_swap_44 : decode cX7_swap 44 = .ok (.invokevirtual 105, 3) := by decide +kernel
theorem dX7_swap_47 : decode cX7_swap 47 = .ok (.ifCond .ne 13, 3) := by decide +kernel
theorem dX7_swap_50 : decode cX7_swap 50 = .ok (.new 109, 3) := by decide +kernel
theorem dX7_swap_53 : decode cX7_swap 53 = .ok (.dup, 1) := by decide +kernel
theorem dX7_swap_54 : decode cX7_swap 54 = .ok (.ldc 167, 2) := by decide +kernel
theorem dX7_swap_56 : decode cX7_swap 56 = .ok (.invokespecial 113, 3) := by decide +kernel
theorem dX7_swap_59 : decode cX7_swap 59 = .ok (.athrow, 1) := by decide +kernel
theorem dX7_swap_60 : decode cX7_swap 60 = .ok (.aload_n 0, 1) := by decide +kernel
theorem dX7_swap_61 : decode cX7_swap 61 = .ok (.getfield 10, 3) := by decide +kernel
theorem dX7_swap_64 : decode cX7_swap 64 = .ok (.getfield 89, 3) := by decide +kernel
theorem dX7_swap_67 : decode cX7_swap 67 = .ok (.iload_n 1, 1) := by decide +kernel
theorem dX7_swap_68 : decode cX7_swap 68 = .ok (.iload_n 3, 1) := by decide +kernel
theorem dX7_swap_69 : decode cX7_swap 69 = .ok (.invokevirtual 169, 3) := by decide +kernel
theorem dX7_swap_72 : decode cX7_swap 72 = .ok (.ifCond .eq 13, 3) := by decide +kernel
theorem dX7_swap_75 : decode cX7_swap 75 = .ok (.new 57, 3) := by decide +kernel
theorem dX7_swap_78 : decode cX7_swap 78 = .ok (.dup, 1) := by decide +kernel
theorem dX7_swap_79 : decode cX7_swap 79 = .ok (.ldc 173, 2) := by decide +kernel
theorem dX7_swap_81 : decode cX7_swap 81 = .ok (.invokespecial 61, 3) := by decide +kernel
theorem dX7_swap_84 : decode cX7_swap 84 = .ok (.athrow, 1) := by decide +kernel
theorem dX7_swap_85 : decode cX7_swap 85 = .ok (.iload_n 2, 1) := by decide +kernel
theorem dX7_swap_86 : decode cX7_swap 86 = .ok (.ifCond .ne 7, 3) := by decide +kernel
theorem dX7_swap_89 : decode cX7_swap 89 = .ok (.iload_n 3, 1) := by decide +kernel
theorem dX7_swap_90 : decode cX7_swap 90 = .ok (.goto 15, 3) := by decide +kernel
theorem dX7_swap_93 : decode cX7_swap 93 = .ok (.aload_n 0, 1) := by decide +kernel
theorem dX7_swap_94 : decode cX7_swap 94 = .ok (.getfield 10, 3) := by decide +kernel
theorem dX7_swap_97 : decode cX7_swap 97 = .ok (.getfield 89, 3) := by decide +kernel
theorem dX7_swap_100 : decode cX7_swap 100 = .ok (.iload_n 1, 1) := by decide +kernel
theorem dX7_swap_101 : decode cX7_swap 101 = .ok (.iconst 0, 1) := by decide +kernel
theorem dX7_swap_102 : decode cX7_swap 102 = .ok (.invokevirtual 175, 3) := by decide +kernel
theorem dX7_swap_105 : decode cX7_swap 105 = .ok (.istore 4, 2) := by decide +kernel
theorem dX7_swap_107 : decode cX7_swap 107 = .ok (.iload_n 2, 1) := by decide +kernel
theorem dX7_swap_108 : decode cX7_swap 108 = .ok (.iconst 1, 1) := by decide +kernel
theorem dX7_swap_109 : decode cX7_swap 109 = .ok (.if_icmp .ne 7, 3) := by decide +kernel
theorem dX7_swap_112 : decode cX7_swap 112 = .ok (.iload_n 3, 1) := by decide +kernel
theorem dX7_swap_113 : decode cX7_swap 113 = .ok (.goto 15, 3) := by decide +kernel
theorem dX7_swap_116 : decode cX7_swap 116 = .ok (.aload_n 0, 1) := by decide +kernel
theorem dX7_swap_117 : decode cX7_swap 117 = .ok (.getfield 10, 3) := by decide +kernel
