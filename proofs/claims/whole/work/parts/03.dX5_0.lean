theorem dX5_init_0 : decode cX5_init 0 = .ok (.aload_n 0, 1) := by decide +kernel
theorem dX5_init_1 : decode cX5_init 1 = .ok (.invokespecial 3, 3) := by decide +kernel
theorem dX5_init_4 : decode cX5_init 4 = .ok (.aload_n 0, 1) := by decide +kernel
theorem dX5_init_5 : decode cX5_init 5 = .ok (.sipush 191, 3) := by decide +kernel
theorem dX5_init_8 : decode cX5_init 8 = .ok (.newarray .int, 2) := by decide +kernel
theorem dX5_init_10 : decode cX5_init 10 = .ok (.putfield 9, 3) := by decide +kernel
theorem dX5_init_13 : decode cX5_init 13 = .ok (.aload_n 0, 1) := by decide +kernel
theorem dX5_init_14 : decode cX5_init 14 = .ok (.iconst (-1), 1) := by decide +kernel
theorem dX5_init_15 : decode cX5_init 15 = .ok (.putfield 15, 3) := by decide +kernel
theorem dX5_init_18 : decode cX5_init 18 = .ok (.return_, 1) := by decide +kernel
theorem dX5_readTable_0 : decode cX5_readTable 0 = .ok (.aload_n 0, 1) := by decide +kernel
theorem dX5_readTable_1 : decode cX5_readTable 1 = .ok (.iconst 0, 1) := by decide +kernel
theorem dX5_readTable_2 : decode cX5_readTable 2 = .ok (.putfield 19, 3) := by decide +kernel
theorem dX5_readTable_5 : decode cX5_readTable 5 = .ok (.aload_n 0, 1) := by decide +kernel
theorem dX5_readTable_6 : decode cX5_readTable 6 = .ok (.iconst (-1), 1) := by decide +kernel
theorem dX5_readTable_7 : decode cX5_readTable 7 = .ok (.putfield 15, 3) := by decide +kernel
theorem dX5_readTable_10 : decode cX5_readTable 10 = .ok (.iconst 1, 1) := by decide +kernel
theorem dX5_readTable_11 : decode cX5_readTable 11 = .ok (.istore_n 2, 1) := by decide +kernel
theorem dX5_readTable_12 : decode cX5_readTable 12 = .ok (.iconst 0, 1) := by decide +kernel
theorem dX5_readTable_13 : decode cX5_readTable 13 = .ok (.istore_n 3, 1) := by decide +kernel
theorem dX5_readTable_14 : decode cX5_readTable 14 = .ok (.iload_n 3, 1) := by decide +kernel
theorem dX5_readTable_15 : decode cX5_readTable 15 = .ok (.iload_n 2, 1) := by decide +kernel
theorem dX5_readTable_16 : decode cX5_readTable 16 = .ok (.if_icmp .ge 80, 3) := by decide +kernel
theorem dX5_readTable_19 : decode cX5_readTable 19 = .ok (.iload_n 3, 1) := by decide +kernel
theorem dX5_readTable_20 : decode cX5_readTable 20 = .ok (.aload_n 0, 1) := by decide +kernel
theorem dX5_readTable_21 : decode cX5_readTable 21 = .ok (.getfield 9, 3) := by decide +kernel
theorem dX5_readTable_24 : decode cX5_readTable 24 = .ok (.arraylength, 1) := by decide +kernel
theorem dX5_readTable_25 : decode cX5_readTable 25 = .ok (.if_icmp .ge 71, 3) := by decide +kernel
theorem dX5_readTable_28 : decode cX5_readTable 28 = .ok (.aload_n 0, 1) := by decide +kernel
theorem dX5_readTable_29 : decode cX5_readTable 29 = .ok (.getfield 15, 3) := by decide +kernel
theorem dX5_readTable_32 : decode cX5_readTable 32 = .ok (.iconst (-1), 1) := by decide +kernel
theorem dX5_readTable_33 : decode cX5_readTable 33 = .ok (.if_icmp .ne 63, 3) := by decide +kernel
theorem dX5_readTable_36 : decode cX5_readTable 36 = .ok (.aload_n 0, 1) := by decide +kernel
theorem dX5_readTable_37 : decode cX5_readTable 37 = .ok (.getfield 9, 3) := by decide +kernel
theorem dX5_readTable_40 : decode cX5_readTable 40 = .ok (.iload_n 3, 1) := by decide +kernel
theorem dX5_readTable_41 : decode cX5_readTable 41 = .ok (.aload_n 0, 1) := by decide +kernel
theorem dX5_readTable_42 : decode cX5_readTable 42 = .ok (.aload_n 1, 1) := by decide +kernel
theorem dX5_readTable_43 : decode cX5_readTable 43 = .ok (.iload_n 3, 1) := by decide +kernel
theorem dX5_readTable_44 : decode cX5_readTable 44 = .ok (.ifCond .ne 8, 3) := by decide +kernel
theorem dX5_readTable_47 : decode cX5_readTable 47 = .ok (.bipush 20, 2) := by decide +kernel
theorem dX5_readTable_49 : decode cX5_readTable 49 = .ok (.goto 5, 3) := by decide +kernel
theorem dX5_readTable_52 : decode cX5_readTable 52 = .ok (.ldc 22, 2) := by decide +kernel
theorem dX5_readTable_54 : decode cX5_readTable 54 = .ok (.invokevirtual 23, 3) := by decide +kernel
theorem dX5_readTable_57 : decode cX5_readTable 57 = .ok (.iastore, 1) := by decide +kernel
theorem dX5_readTable_58 : decode cX5_readTable 58 = .ok (.iload_n 3, 1) := by decide +kernel
theorem dX5_readTable_59 : decode cX5_readTable 59 = .ok (.ifCond .ne 31, 3) := by decide +kernel
theorem dX5_readTable_62 : decode cX5_readTable 62 = .ok (.aload_n 0, 1) := by decide +kernel
theorem dX5_readTable_63 : decode cX5_readTable 63 = .ok (.getfield 15, 3) := by decide +kernel
theorem dX5_readTable_66 : decode cX5_readTable 66 = .ok (.iconst (-1), 1) := by decide +kernel
theorem dX5_readTable_67 : decode cX5_readTable 67 = .ok (.if_icmp .ne 23, 3) := by decide +kernel
theorem dX5_readTable_70 : decode cX5_readTable 70 = .ok (.iconst 1, 1) := by decide +kernel
theorem dX5_readTable_71 : decode cX5_readTable 71 = .ok (.aload_n 0, 1) := by decide +kernel
theorem dX5_readTable_72 : decode cX5_readTable 72 = .ok (.getfield 9, 3) := by decide +kernel
theorem dX5_readTable_75 : decode cX5_readTable 75 = .ok (.iconst 0, 1) := by decide +kernel
theorem dX5_readTable_76 : decode cX5_readTable 76 = .ok (.iaload, 1) := by decide +kernel
theorem dX5_readTable_77 : decode cX5_readTable 77 = .ok (.aload_n 0, 1) := by decide +kernel
theorem dX5_readTable_78 : decode cX5_readTable 78 = .ok (.getfield 9, 3) := by decide +kernel
theorem dX5_readTable_81 : decode cX5_readTable 81 = .ok (.iconst 0, 1) := by decide +kernel
theorem dX5_readTable_82 : decode cX5_readTable 82 = .ok (.iaload, 1) := by decide +kernel
theorem dX5_readTable_83 : decode cX5_readTable 83 = .ok (.iconst 1, 1) := by decide +kernel
theorem dX5_readTable_84 : decode cX5_readTable 84 = .ok (.isub, 1) := by decide +kernel
theorem dX5_readTable_85 : decode cX5_readTable 85 = .ok (.imul, 1) := by decide +kernel
theorem dX5_readTable_86 : decode cX5_readTable 86 = .ok (.iconst 2, 1) := by decide +kernel
theorem dX5_readTable_87 : decode cX5_readTable 87 = .ok (.idiv, 1) := by decide +kernel
theorem dX5_readTable_88 : decode cX5_readTable 88 = .ok (.iadd, 1) := by decide +kernel
theorem dX5_readTable_89 : decode cX5_readTable 89 = .ok (.istore_n 2, 1) := by decide +kernel
theorem dX5_readTable_90 : decode cX5_readTable 90 = .ok (.iinc 3 1, 3) := by decide +kernel
theorem dX5_readTable_93 : decode cX5_readTable 93 = .ok (.goto (-79), 3) := by decide +kernel
theorem dX5_readTable_96 : decode cX5_readTable 96 = .ok (.aload_n 0, 1) := by decide +kernel
theorem dX5_readTable_97 : decode cX5_readTable 97 = .ok (.getfield 15, 3) := by decide +kernel
theorem dX5_readTable_100 : decode cX5_readTable 100 = .ok (.iconst (-1), 1) := by decide +kernel
theorem dX5_readTable_101 : decode cX5_readTable 101 = .ok (.if_icmp .ne 31, 3) := by decide +kernel
theorem dX5_readTable_104 : decode cX5_readTable 104 = .ok (.aload_n 0, 1) := by decide +kernel
theorem dX5_readTable_105 : decode cX5_readTable 105 = .ok (.aload_n 1, 1) := by decide +kernel
theorem dX5_readTable_106 : decode cX5_readTable 106 = .ok (.invokevirtual 27, 3) := by decide +kernel
theorem dX5_readTable_109 : decode cX5_readTable 109 = .ok (.aload_n 0, 1) := by decide +kernel
theorem dX5_readTable_110 : decode cX5_readTable 110 = .ok (.aload_n 0, 1) := by decide +kernel
theorem dX5_readTable_111 : decode cX5_readTable 111 = .ok (.getfield 19, 3) := by decide +kernel
theorem dX5_readTable_114 : decode cX5_readTable 114 = .ok (.aload_n 1, 1) := by decide +kernel
theorem dX5_readTable_115 : decode cX5_readTable 115 = .ok (.getfield 31, 3) := by decide +kernel
theorem dX5_readTable_118 : decode cX5_readTable 118 = .ok (.if_icmp .ge 10, 3) := by decide +kernel
theorem dX5_readTable_121 : decode cX5_readTable 121 = .ok (.aload_n 0, 1) := by decide +kernel
theorem dX5_readTable_122 : decode cX5_readTable 122 = .ok (.getfield 19, 3) := by decide +kernel
theorem dX5_readTable_125 : decode cX5_readTable 125 = .ok (.goto 4, 3) := by decide +kernel
theorem dX5_readTable_128 : decode cX5_readTable 128 = .ok (.iconst (-1), 1) := by decide +kernel
theorem dX5_readTable_129 : decode cX5_readTable 129 = .ok (.putfield 15, 3) := by decide +kernel
theorem dX5_readTable_132 : decode cX5_readTable 132 = .ok (.aload_n 0, 1) := by decide +kernel
theorem dX5_readTable_133 : decode cX5_readTable 133 = .ok (.getfield 15, 3) := by decide +kernel
theorem dX5_readTable_136 : decode cX5_readTable 136 = .ok (.iconst (-1), 1) := by decide +kernel
theorem dX5_readTable_137 : decode cX5_readTable 137 = .ok (.if_icmp .ne 7, 3) := by decide +kernel
theorem dX5_readTable_140 : decode cX5_readTable 140 = .ok (.iconst 1, 1) := by decide +kernel
theorem dX5_readTable_141 : decode cX5_readTable 141 = .ok (.goto 4, 3) := by decide +kernel
theorem dX5_readTable_144 : decode cX5_readTable 144 = .ok (.iconst 0, 1) := by decide +kernel
theorem dX5_readTable_145 : decode cX5_readTable 145 = .ok (.ireturn, 1) := by decide +kernel
theorem dX5_readNumber_0 : decode cX5_readNumber 0 = .ok (.aload_n 0, 1) := by decide +kernel
theorem dX5_readNumber_1 : decode cX5_readNumber 1 = .ok (.aload_n 1, 1) := by decide +kernel
theorem dX5_readNumber_2 : decode cX5_readNumber 2 = .ok (.invokevirtual 27, 3) := by decide +kernel
theorem dX5_readNumber_5 : decode cX5_readNumber 5 = .ok (.aload_n 0, 1) := by decide +kernel
theorem dX5_readNumber_6 : decode cX5_readNumber 6 = .ok (.getfield 19, 3) := by decide +kernel
theorem dX5_readNumber_9 : decode cX5_readNumber 9 = .ok (.istore_n 3, 1) := by decide +kernel
theorem dX5_readNumber_10 : decode cX5_readNumber 10 = .ok (.iconst 0, 1) := by decide +kernel
theorem dX5_readNumber_11 : decode cX5_readNumber 11 = .ok (.istore 4, 2) := by decide +kernel
theorem dX5_readNumber_13 : decode cX5_readNumber 13 = .ok (.aload_n 0, 1) := by decide +kernel
theorem dX5_readNumber_14 : decode cX5_readNumber 14 = .ok (.getfield 19, 3) := by decide +kernel
theorem dX5_readNumber_17 : decode cX5_readNumber 17 = .ok (.aload_n 1, 1) := by decide +kernel
theorem dX5_readNumber_18 : decode cX5_readNumber 18 = .ok (.getfield 31, 3) := by decide +kernel
theorem dX5_readNumber_21 : decode cX5_readNumber 21 = .ok (.if_icmp .ge 60, 3) := by decide +kernel
theorem dX5_readNumber_24 : decode cX5_readNumber 24 = .ok (.aload_n 0, 1) := by decide +kernel
theorem dX5_readNumber_25 : decode cX5_readNumber 25 = .ok (.getfield 19, 3) := by decide +kernel
theorem dX5_readNumber_28 : decode cX5_readNumber 28 = .ok (.iload_n 3, 1) := by decide +kernel
theorem dX5_readNumber_29 : decode cX5_readNumber 29 = .ok (.isub, 1) := by decide +kernel
theorem dX5_readNumber_30 : decode cX5_readNumber 30 = .ok (.bipush 7, 2) := by decide +kernel
theorem dX5_readNumber_32 : decode cX5_readNumber 32 = .ok (.if_icmp .gt 49, 3) := by decide +kernel
theorem dX5_readNumber_35 : decode cX5_readNumber 35 = .ok (.aload_n 1, 1) := by decide +kernel
theorem dX5_readNumber_36 : decode cX5_readNumber 36 = .ok (.aload_n 0, 1) := by decide +kernel
theorem dX5_readNumber_37 : decode cX5_readNumber 37 = .ok (.getfield 19, 3) := by decide +kernel
theorem dX5_readNumber_40 : decode cX5_readNumber 40 = .ok (.invokevirtual 36, 3) := by decide +kernel
theorem dX5_readNumber_43 : decode cX5_readNumber 43 = .ok (.invokestatic 40, 3) := by decide +kernel
theorem dX5_readNumber_46 : decode cX5_readNumber 46 = .ok (.ifCond .eq 35, 3) := by decide +kernel
theorem dX5_readNumber_49 : decode cX5_readNumber 49 = .ok (.iload 4, 2) := by decide +kernel
theorem dX5_readNumber_51 : decode cX5_readNumber 51 = .ok (.bipush 10, 2) := by decide +kernel
theorem dX5_readNumber_53 : decode cX5_readNumber 53 = .ok (.imul, 1) := by decide +kernel
theorem dX5_readNumber_54 : decode cX5_readNumber 54 = .ok (.aload_n 1, 1) := by decide +kernel
theorem dX5_readNumber_55 : decode cX5_readNumber 55 = .ok (.aload_n 0, 1) := by decide +kernel
theorem dX5_readNumber_56 : decode cX5_readNumber 56 = .ok (.getfield 19, 3) := by decide +kernel
theorem dX5_readNumber_59 : decode cX5_readNumber 59 = .ok (.invokevirtual 36, 3) := by decide +kernel
theorem dX5_readNumber_62 : decode cX5_readNumber 62 = .ok (.iadd, 1) := by decide +kernel
theorem dX5_readNumber_63 : decode cX5_readNumber 63 = .ok (.bipush 48, 2) := by decide +kernel
theorem dX5_readNumber_65 : decode cX5_readNumber 65 = .ok (.isub, 1) := by decide +kernel
theorem dX5_readNumber_66 : decode cX5_readNumber 66 = .ok (.istore 4, 2) := by decide +kernel
theorem dX5_readNumber_68 : decode cX5_readNumber 68 = .ok (.aload_n 0, 1) := by decide +kernel
theorem dX5_readNumber_69 : decode cX5_readNumber 69 = .ok (.dup, 1) := by decide +kernel
theorem dX5_readNumber_70 : decode cX5_readNumber 70 = .ok (.getfield 19, 3) := by decide +kernel
theorem dX5_readNumber_73 : decode cX5_readNumber 73 = .ok (.iconst 1, 1) := by decide +kernel
theorem dX5_readNumber_74 : decode cX5_readNumber 74 = .ok (.iadd, 1) := by decide +kernel
theorem dX5_readNumber_75 : decode cX5_readNumber 75 = .ok (.putfield 19, 3) := by decide +kernel
theorem dX5_readNumber_78 : decode cX5_readNumber 78 = .ok (.goto (-65), 3) := by decide +kernel
theorem dX5_readNumber_81 : decode cX5_readNumber 81 = .ok (.aload_n 0, 1) := by decide +kernel
theorem dX5_readNumber_82 : decode cX5_readNumber 82 = .ok (.getfield 19, 3) := by decide +kernel
theorem dX5_readNumber_85 : decode cX5_readNumber 85 = .ok (.iload_n 3, 1) := by decide +kernel
theorem dX5_readNumber_86 : decode cX5_readNumber 86 = .ok (.isub, 1) := by decide +kernel
theorem dX5_readNumber_87 : decode cX5_readNumber 87 = .ok (.istore 5, 2) := by decide +kernel
theorem dX5_readNumber_89 : decode cX5_readNumber 89 = .ok (.iload 5, 2) := by decide +kernel
theorem dX5_readNumber_91 : decode cX5_readNumber 91 = .ok (.ifCond .eq 16, 3) := by decide +kernel
theorem dX5_readNumber_94 : decode cX5_readNumber 94 = .ok (.iload 5, 2) := by decide +kernel
theorem dX5_readNumber_96 : decode cX5_readNumber 96 = .ok (.bipush 7, 2) := by decide +kernel
theorem dX5_readNumber_98 : decode cX5_readNumber 98 = .ok (.if_icmp .gt 9, 3) := by decide +kernel
theorem dX5_readNumber_101 : decode cX5_readNumber 101 = .ok (.iload 4, 2) := by decide +kernel
theorem dX5_readNumber_103 : decode cX5_readNumber 103 = .ok (.iload_n 2, 1) := by decide +kernel
theorem dX5_readNumber_104 : decode cX5_readNumber 104 = .ok (.if_icmp .le 8, 3) := by decide +kernel
theorem dX5_readNumber_107 : decode cX5_readNumber 107 = .ok (.aload_n 0, 1) := by decide +kernel
theorem dX5_readNumber_108 : decode cX5_readNumber 108 = .ok (.iload_n 3, 1) := by decide +kernel
theorem dX5_readNumber_109 : decode cX5_readNumber 109 = .ok (.putfield 15, 3) := by decide +kernel
theorem dX5_readNumber_112 : decode cX5_readNumber 112 = .ok (.iload 4, 2) := by decide +kernel
theorem dX5_readNumber_114 : decode cX5_readNumber 114 = .ok (.ireturn, 1) := by decide +kernel
theorem dX5_skipBlanks_0 : decode cX5_skipBlanks 0 = .ok (.aload_n 0, 1) := by decide +kernel
theorem dX5_skipBlanks_1 : decode cX5_skipBlanks 1 = .ok (.getfield 19, 3) := by decide +kernel
theorem dX5_skipBlanks_4 : decode cX5_skipBlanks 4 = .ok (.aload_n 1, 1) := by decide +kernel
theorem dX5_skipBlanks_5 : decode cX5_skipBlanks 5 = .ok (.getfield 31, 3) := by decide +kernel
theorem dX5_skipBlanks_8 : decode cX5_skipBlanks 8 = .ok (.if_icmp .ge 30, 3) := by decide +kernel
theorem dX5_skipBlanks_11 : decode cX5_skipBlanks 11 = .ok (.aload_n 1, 1) := by decide +kernel
theorem dX5_skipBlanks_12 : decode cX5_skipBlanks 12 = .ok (.aload_n 0, 1) := by decide +kernel
theorem dX5_skipBlanks_13 : decode cX5_skipBlanks 13 = .ok (.getfield 19, 3) := by decide +kernel
theorem dX5_skipBlanks_16 : decode cX5_skipBlanks 16 = .ok (.invokevirtual 36, 3) := by decide +kernel
theorem dX5_skipBlanks_19 : decode cX5_skipBlanks 19 = .ok (.invokestatic 44, 3) := by decide +kernel
theorem dX5_skipBlanks_22 : decode cX5_skipBlanks 22 = .ok (.ifCond .eq 16, 3) := by decide +kernel
theorem dX5_skipBlanks_25 : decode cX5_skipBlanks 25 = .ok (.aload_n 0, 1) := by decide +kernel
theorem dX5_skipBlanks_26 : decode cX5_skipBlanks 26 = .ok (.dup, 1) := by decide +kernel
theorem dX5_skipBlanks_27 : decode cX5_skipBlanks 27 = .ok (.getfield 19, 3) := by decide +kernel
theorem dX5_skipBlanks_30 : decode cX5_skipBlanks 30 = .ok (.iconst 1, 1) := by decide +kernel
theorem dX5_skipBlanks_31 : decode cX5_skipBlanks 31 = .ok (.iadd, 1) := by decide +kernel
theorem dX5_skipBlanks_32 : decode cX5_skipBlanks 32 = .ok (.putfield 19, 3) := by decide +kernel
theorem dX5_skipBlanks_35 : decode cX5_skipBlanks 35 = .ok (.goto (-35), 3) := by decide +kernel
theorem dX5_skipBlanks_38 : decode cX5_skipBlanks 38 = .ok (.return_, 1) := by decide +kernel
theorem dX5_isDigit_0 : decode cX5_isDigit 0 = .ok (.iload_n 0, 1) := by decide +kernel
theorem dX5_isDigit_1 : decode cX5_isDigit 1 = .ok (.bipush 48, 2) := by decide +kernel
theorem dX5_isDigit_3 : decode cX5_isDigit 3 = .ok (.if_icmp .lt 13, 3) := by decide +kernel
theorem dX5_isDigit_6 : decode cX5_isDigit 6 = .ok (.iload_n 0, 1) := by decide +kernel
theorem dX5_isDigit_7 : decode cX5_isDigit 7 = .ok (.bipush 57, 2) := by decide +kernel
theorem dX5_isDigit_9 : decode cX5_isDigit 9 = .ok (.if_icmp .gt 7, 3) := by decide +kernel
theorem dX5_isDigit_12 : decode cX5_isDigit 12 = .ok (.iconst 1, 1) := by decide +kernel
theorem dX5_isDigit_13 : decode cX5_isDigit 13 = .ok (.goto 4, 3) := by decide +kernel
theorem dX5_isDigit_16 : decode cX5_isDigit 16 = .ok (.iconst 0, 1) := by decide +kernel
theorem dX5_isDigit_17 : decode cX5_isDigit 17 = .ok (.ireturn, 1) := by decide +kernel
theorem dX5_isBlank_0 : decode cX5_isBlank 0 = .ok (.iload_n 0, 1) := by decide +kernel
theorem dX5_isBlank_1 : decode cX5_isBlank 1 = .ok (.bipush 32, 2) := by decide +kernel
theorem dX5_isBlank_3 : decode cX5_isBlank 3 = .ok (.if_icmp .eq 9, 3) := by decide +kernel
theorem dX5_isBlank_6 : decode cX5_isBlank 6 = .ok (.iload_n 0, 1) := by decide +kernel
theorem dX5_isBlank_7 : decode cX5_isBlank 7 = .ok (.bipush 10, 2) := by decide +kernel
theorem dX5_isBlank_9 : decode cX5_isBlank 9 = .ok (.if_icmp .ne 7, 3) := by decide +kernel
theorem dX5_isBlank_12 : decode cX5_isBlank 12 = .ok (.iconst 1, 1) := by decide +kernel
theorem dX5_isBlank_13 : decode cX5_isBlank 13 = .ok (.goto 4, 3) := by decide +kernel
theorem dX5_isBlank_16 : decode cX5_isBlank 16 = .ok (.iconst 0, 1) := by decide +kernel
theorem dX5_isBlank_17 : decode cX5_isBlank 17 = .ok (.ireturn, 1) := by decide +kernel
