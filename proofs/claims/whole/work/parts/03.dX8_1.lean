theorem dX8_weighted_16 : decode cX8_weighted 16 = .ok (.iconst 1, 1) := by decide +kernel
theorem dX8_weighted_17 : decode cX8_weighted 17 = .ok (.iand, 1) := by decide +kernel
theorem dX8_weighted_18 : decode cX8_weighted 18 = .ok (.ifCond .ne 6, 3) := by decide +kernel
theorem dX8_weighted_21 : decode cX8_weighted 21 = .ok (.goto 69, 3) := by decide +kernel
theorem dX8_weighted_24 : decode cX8_weighted 24 = .ok (.aload_n 0, 1) := by decide +kernel
theorem dX8_weighted_25 : decode cX8_weighted 25 = .ok (.iload 5, 2) := by decide +kernel
theorem dX8_weighted_27 : decode cX8_weighted 27 = .ok (.iload_n 1, 1) := by decide +kernel
theorem dX8_weighted_28 : decode cX8_weighted 28 = .ok (.invokevirtual 150, 3) := by decide +kernel
theorem dX8_weighted_31 : decode cX8_weighted 31 = .ok (.istore 6, 2) := by decide +kernel
theorem dX8_weighted_33 : decode cX8_weighted 33 = .ok (.iconst 0, 1) := by decide +kernel
theorem dX8_weighted_34 : decode cX8_weighted 34 = .ok (.istore 7, 2) := by decide +kernel
theorem dX8_weighted_36 : decode cX8_weighted 36 = .ok (.iload 7, 2) := by decide +kernel
theorem dX8_weighted_38 : decode cX8_weighted 38 = .ok (.bipush 20, 2) := by decide +kernel
theorem dX8_weighted_40 : decode cX8_weighted 40 = .ok (.if_icmp .ge 50, 3) := by decide +kernel
theorem dX8_weighted_43 : decode cX8_weighted 43 = .ok (.iload_n 2, 1) := by decide +kernel
theorem dX8_weighted_44 : decode cX8_weighted 44 = .ok (.iload 7, 2) := by decide +kernel
theorem dX8_weighted_46 : decode cX8_weighted 46 = .ok (.ishr, 1) := by decide +kernel
theorem dX8_weighted_47 : decode cX8_weighted 47 = .ok (.iconst 1, 1) := by decide +kernel
theorem dX8_weighted_48 : decode cX8_weighted 48 = .ok (.iand, 1) := by decide +kernel
theorem dX8_weighted_49 : decode cX8_weighted 49 = .ok (.iconst 1, 1) := by decide +kernel
theorem dX8_weighted_50 : decode cX8_weighted 50 = .ok (.if_icmp .ne 34, 3) := by decide +kernel
theorem dX8_weighted_53 : decode cX8_weighted 53 = .ok (.lload_n 3, 1) := by decide +kernel
theorem dX8_weighted_54 : decode cX8_weighted 54 = .ok (.aload_n 0, 1) := by decide +kernel
theorem dX8_weighted_55 : decode cX8_weighted 55 = .ok (.getfield 7, 3) := by decide +kernel
theorem dX8_weighted_58 : decode cX8_weighted 58 = .ok (.bipush 20, 2) := by decide +kernel
theorem dX8_weighted_60 : decode cX8_weighted 60 = .ok (.iload 5, 2) := by decide +kernel
theorem dX8_weighted_62 : decode cX8_weighted 62 = .ok (.imul, 1) := by decide +kernel
theorem dX8_weighted_63 : decode cX8_weighted 63 = .ok (.iload 7, 2) := by decide +kernel
theorem dX8_weighted_65 : decode cX8_weighted 65 = .ok (.iadd, 1) := by decide +kernel
theorem dX8_weighted_66 : decode cX8_weighted 66 = .ok (.iaload, 1) := by decide +kernel
theorem dX8_weighted_67 : decode cX8_weighted 67 = .ok (.i2l, 1) := by decide +kernel
theorem dX8_weighted_68 : decode cX8_weighted 68 = .ok (.bipush 18, 2) := by decide +kernel
theorem dX8_weighted_70 : decode cX8_weighted 70 = .ok (.iload 6, 2) := by decide +kernel
theorem dX8_weighted_72 : decode cX8_weighted 72 = .ok (.isub, 1) := by decide +kernel
theorem dX8_weighted_73 : decode cX8_weighted 73 = .ok (.aload_n 0, 1) := by decide +kernel
theorem dX8_weighted_74 : decode cX8_weighted 74 = .ok (.iload 7, 2) := by decide +kernel
theorem dX8_weighted_76 : decode cX8_weighted 76 = .ok (.iload_n 2, 1) := by decide +kernel
theorem dX8_weighted_77 : decode cX8_weighted 77 = .ok (.invokevirtual 150, 3) := by decide +kernel
theorem dX8_weighted_80 : decode cX8_weighted 80 = .ok (.isub, 1) := by decide +kernel
theorem dX8_weighted_81 : decode cX8_weighted 81 = .ok (.lshl, 1) := by decide +kernel
theorem dX8_weighted_82 : decode cX8_weighted 82 = .ok (.ladd, 1) := by decide +kernel
theorem dX8_weighted_83 : decode cX8_weighted 83 = .ok (.lstore_n 3, 1) := by decide +kernel
theorem dX8_weighted_84 : decode cX8_weighted 84 = .ok (.iinc 7 1, 3) := by decide +kernel
theorem dX8_weighted_87 : decode cX8_weighted 87 = .ok (.goto (-51), 3) := by decide +kernel
theorem dX8_weighted_90 : decode cX8_weighted 90 = .ok (.iinc 5 1, 3) := by decide +kernel
theorem dX8_weighted_93 : decode cX8_weighted 93 = .ok (.goto (-88), 3) := by decide +kernel
theorem dX8_weighted_96 : decode cX8_weighted 96 = .ok (.lload_n 3, 1) := by decide +kernel
theorem dX8_weighted_97 : decode cX8_weighted 97 = .ok (.lreturn, 1) := by decide +kernel
theorem dX8_lowest_0 : decode cX8_lowest 0 = .ok (.lload_n 1, 1) := by decide +kernel
theorem dX8_lowest_1 : decode cX8_lowest 1 = .ok (.lconst 0, 1) := by decide +kernel
theorem dX8_lowest_2 : decode cX8_lowest 2 = .ok (.lcmp, 1) := by decide +kernel
theorem dX8_lowest_3 : decode cX8_lowest 3 = .ok (.ifCond .ge 8, 3) := by decide +kernel
theorem dX8_lowest_6 : decode cX8_lowest 6 = .ok (.lload_n 1, 1) := by decide +kernel
theorem dX8_lowest_7 : decode cX8_lowest 7 = .ok (.lneg, 1) := by decide +kernel
theorem dX8_lowest_8 : decode cX8_lowest 8 = .ok (.goto 4, 3) := by decide +kernel
theorem dX8_lowest_11 : decode cX8_lowest 11 = .ok (.lload_n 1, 1) := by decide +kernel
theorem dX8_lowest_12 : decode cX8_lowest 12 = .ok (.lstore 5, 2) := by decide +kernel
theorem dX8_lowest_14 : decode cX8_lowest 14 = .ok (.lload_n 3, 1) := by decide +kernel
theorem dX8_lowest_15 : decode cX8_lowest 15 = .ok (.lstore 7, 2) := by decide +kernel
theorem dX8_lowest_17 : decode cX8_lowest 17 = .ok (.lload 5, 2) := by decide +kernel
theorem dX8_lowest_19 : decode cX8_lowest 19 = .ok (.lconst 0, 1) := by decide +kernel
theorem dX8_lowest_20 : decode cX8_lowest 20 = .ok (.lcmp, 1) := by decide +kernel
theorem dX8_lowest_21 : decode cX8_lowest 21 = .ok (.ifCond .eq 21, 3) := by decide +kernel
theorem dX8_lowest_24 : decode cX8_lowest 24 = .ok (.lload 7, 2) := by decide +kernel
theorem dX8_lowest_26 : decode cX8_lowest 26 = .ok (.lload 5, 2) := by decide +kernel
theorem dX8_lowest_28 : decode cX8_lowest 28 = .ok (.lrem, 1) := by decide +kernel
theorem dX8_lowest_29 : decode cX8_lowest 29 = .ok (.lstore 9, 2) := by decide +kernel
theorem dX8_lowest_31 : decode cX8_lowest 31 = .ok (.lload 5, 2) := by decide +kernel
theorem dX8_lowest_33 : decode cX8_lowest 33 = .ok (.lstore 7, 2) := by decide +kernel
theorem dX8_lowest_35 : decode cX8_lowest 35 = .ok (.lload 9, 2) := by decide +kernel
theorem dX8_lowest_37 : decode cX8_lowest 37 = .ok (.lstore 5, 2) := by decide +kernel
theorem dX8_lowest_39 : decode cX8_lowest 39 = .ok (.goto (-22), 3) := by decide +kernel
theorem dX8_lowest_42 : decode cX8_lowest 42 = .ok (.aload_n 0, 1) := by decide +kernel
theorem dX8_lowest_43 : decode cX8_lowest 43 = .ok (.lload_n 1, 1) := by decide +kernel
theorem dX8_lowest_44 : decode cX8_lowest 44 = .ok (.lload 7, 2) := by decide +kernel
theorem dX8_lowest_46 : decode cX8_lowest 46 = .ok (.ldiv, 1) := by decide +kernel
theorem dX8_lowest_47 : decode cX8_lowest 47 = .ok (.putfield 154, 3) := by decide +kernel
theorem dX8_lowest_50 : decode cX8_lowest 50 = .ok (.aload_n 0, 1) := by decide +kernel
theorem dX8_lowest_51 : decode cX8_lowest 51 = .ok (.lload_n 3, 1) := by decide +kernel
theorem dX8_lowest_52 : decode cX8_lowest 52 = .ok (.lload 7, 2) := by decide +kernel
theorem dX8_lowest_54 : decode cX8_lowest 54 = .ok (.ldiv, 1) := by decide +kernel
theorem dX8_lowest_55 : decode cX8_lowest 55 = .ok (.putfield 158, 3) := by decide +kernel
theorem dX8_lowest_58 : decode cX8_lowest 58 = .ok (.return_, 1) := by decide +kernel
theorem dX8_link_0 : decode cX8_link 0 = .ok (.iload_n 2, 1) := by decide +kernel
theorem dX8_link_1 : decode cX8_link 1 = .ok (.invokestatic 161, 3) := by decide +kernel
theorem dX8_link_4 : decode cX8_link 4 = .ok (.i2l, 1) := by decide +kernel
theorem dX8_link_5 : decode cX8_link 5 = .ok (.lstore 4, 2) := by decide +kernel
theorem dX8_link_7 : decode cX8_link 7 = .ok (.iload_n 3, 1) := by decide +kernel
theorem dX8_link_8 : decode cX8_link 8 = .ok (.invokestatic 161, 3) := by decide +kernel
theorem dX8_link_11 : decode cX8_link 11 = .ok (.i2l, 1) := by decide +kernel
theorem dX8_link_12 : decode cX8_link 12 = .ok (.lstore 6, 2) := by decide +kernel
theorem dX8_link_14 : decode cX8_link 14 = .ok (.iload_n 1, 1) := by decide +kernel
theorem dX8_link_15 : decode cX8_link 15 = .ok (.tableswitch 139 0 3 #[29, 45, 61, 79], 29) := by decide +kernel
theorem dX8_link_44 : decode cX8_link 44 = .ok (.aload_n 0, 1) := by decide +kernel
theorem dX8_link_45 : decode cX8_link 45 = .ok (.aload_n 0, 1) := by decide +kernel
theorem dX8_link_46 : decode cX8_link 46 = .ok (.iload_n 2, 1) := by decide +kernel
theorem dX8_link_47 : decode cX8_link 47 = .ok (.iload_n 3, 1) := by decide +kernel
theorem dX8_link_48 : decode cX8_link 48 = .ok (.iconst 0, 1) := by decide +kernel
theorem dX8_link_49 : decode cX8_link 49 = .ok (.invokevirtual 164, 3) := by decide +kernel
theorem dX8_link_52 : decode cX8_link 52 = .ok (.i2l, 1) := by decide +kernel
theorem dX8_link_53 : decode cX8_link 53 = .ok (.lconst 1, 1) := by decide +kernel
theorem dX8_link_54 : decode cX8_link 54 = .ok (.invokevirtual 168, 3) := by decide +kernel
theorem dX8_link_57 : decode cX8_link 57 = .ok (.goto 110, 3) := by decide +kernel
theorem dX8_link_60 : decode cX8_link 60 = .ok (.aload_n 0, 1) := by decide +kernel
theorem dX8_link_61 : decode cX8_link 61 = .ok (.aload_n 0, 1) := by decide +kernel
theorem dX8_link_62 : decode cX8_link 62 = .ok (.iload_n 2, 1) := by decide +kernel
theorem dX8_link_63 : decode cX8_link 63 = .ok (.iload_n 3, 1) := by decide +kernel
theorem dX8_link_64 : decode cX8_link 64 = .ok (.iconst 1, 1) := by decide +kernel
theorem dX8_link_65 : decode cX8_link 65 = .ok (.invokevirtual 164, 3) := by decide +kernel
theorem dX8_link_68 : decode cX8_link 68 = .ok (.i2l, 1) := by decide +kernel
theorem dX8_link_69 : decode cX8_link 69 = .ok (.lconst 1, 1) := by decide +kernel
theorem dX8_link_70 : decode cX8_link 70 = .ok (.invokevirtual 168, 3) := by decide +kernel
theorem dX8_link_73 : decode cX8_link 73 = .ok (.goto 94, 3) := by decide +kernel
theorem dX8_link_76 : decode cX8_link 76 = .ok (.aload_n 0, 1) := by decide +kernel
theorem dX8_link_77 : decode cX8_link 77 = .ok (.aload_n 0, 1) := by decide +kernel
theorem dX8_link_78 : decode cX8_link 78 = .ok (.iload_n 2, 1) := by decide +kernel
theorem dX8_link_79 : decode cX8_link 79 = .ok (.iload_n 3, 1) := by decide +kernel
theorem dX8_link_80 : decode cX8_link 80 = .ok (.invokevirtual 172, 3) := by decide +kernel
theorem dX8_link_83 : decode cX8_link 83 = .ok (.lload 4, 2) := by decide +kernel
theorem dX8_link_85 : decode cX8_link 85 = .ok (.lload 6, 2) := by decide +kernel
theorem dX8_link_87 : decode cX8_link 87 = .ok (.lmul, 1) := by decide +kernel
theorem dX8_link_88 : decode cX8_link 88 = .ok (.invokevirtual 168, 3) := by decide +kernel
theorem dX8_link_91 : decode cX8_link 91 = .ok (.goto 76, 3) := by decide +kernel
theorem dX8_link_94 : decode cX8_link 94 = .ok (.aload_n 0, 1) := by decide +kernel
theorem dX8_link_95 : decode cX8_link 95 = .ok (.ldc2_w 176, 3) := by decide +kernel
theorem dX8_link_98 : decode cX8_link 98 = .ok (.lload 4, 2) := by decide +kernel
theorem dX8_link_100 : decode cX8_link 100 = .ok (.lmul, 1) := by decide +kernel
theorem dX8_link_101 : decode cX8_link 101 = .ok (.lload 6, 2) := by decide +kernel
theorem dX8_link_103 : decode cX8_link 103 = .ok (.lmul, 1) := by decide +kernel
theorem dX8_link_104 : decode cX8_link 104 = .ok (.aload_n 0, 1) := by decide +kernel
theorem dX8_link_105 : decode cX8_link 105 = .ok (.iload_n 2, 1) := by decide +kernel
theorem dX8_link_106 : decode cX8_link 106 = .ok (.iload_n 3, 1) := by decide +kernel
theorem dX8_link_107 : decode cX8_link 107 = .ok (.invokevirtual 172, 3) := by decide +kernel
theorem dX8_link_110 : decode cX8_link 110 = .ok (.lmul, 1) := by decide +kernel
theorem dX8_link_111 : decode cX8_link 111 = .ok (.lload 6, 2) := by decide +kernel
theorem dX8_link_113 : decode cX8_link 113 = .ok (.lload 6, 2) := by decide +kernel
theorem dX8_link_115 : decode cX8_link 115 = .ok (.lmul, 1) := by decide +kernel
theorem dX8_link_116 : decode cX8_link 116 = .ok (.aload_n 0, 1) := by decide +kernel
theorem dX8_link_117 : decode cX8_link 117 = .ok (.iload_n 2, 1) := by decide +kernel
theorem dX8_link_118 : decode cX8_link 118 = .ok (.iload_n 2, 1) := by decide +kernel
theorem dX8_link_119 : decode cX8_link 119 = .ok (.invokevirtual 172, 3) := by decide +kernel
theorem dX8_link_122 : decode cX8_link 122 = .ok (.lmul, 1) := by decide +kernel
theorem dX8_link_123 : decode cX8_link 123 = .ok (.lsub, 1) := by decide +kernel
theorem dX8_link_124 : decode cX8_link 124 = .ok (.lload 4, 2) := by decide +kernel
theorem dX8_link_126 : decode cX8_link 126 = .ok (.lload 4, 2) := by decide +kernel
theorem dX8_link_128 : decode cX8_link 128 = .ok (.lmul, 1) := by decide +kernel
theorem dX8_link_129 : decode cX8_link 129 = .ok (.aload_n 0, 1) := by decide +kernel
theorem dX8_link_130 : decode cX8_link 130 = .ok (.iload_n 3, 1) := by decide +kernel
theorem dX8_link_131 : decode cX8_link 131 = .ok (.iload_n 3, 1) := by decide +kernel
theorem dX8_link_132 : decode cX8_link 132 = .ok (.invokevirtual 172, 3) := by decide +kernel
theorem dX8_link_135 : decode cX8_link 135 = .ok (.lmul, 1) := by decide +kernel
theorem dX8_link_136 : decode cX8_link 136 = .ok (.lsub, 1) := by decide +kernel
theorem dX8_link_137 : decode cX8_link 137 = .ok (.lload 4, 2) := by decide +kernel
theorem dX8_link_139 : decode cX8_link 139 = .ok (.lload 6, 2) := by decide +kernel
theorem dX8_link_141 : decode cX8_link 141 = .ok (.lmul, 1) := by decide +kernel
theorem dX8_link_142 : decode cX8_link 142 = .ok (.lload 4, 2) := by decide +kernel
theorem dX8_link_144 : decode cX8_link 144 = .ok (.lload 6, 2) := by decide +kernel
theorem dX8_link_146 : decode cX8_link 146 = .ok (.ladd, 1) := by decide +kernel
theorem dX8_link_147 : decode cX8_link 147 = .ok (.lmul, 1) := by decide +kernel
theorem dX8_link_148 : decode cX8_link 148 = .ok (.invokevirtual 168, 3) := by decide +kernel
theorem dX8_link_151 : decode cX8_link 151 = .ok (.goto 16, 3) := by decide +kernel
theorem dX8_link_154 : decode cX8_link 154 = .ok (.aload_n 0, 1) := by decide +kernel
theorem dX8_link_155 : decode cX8_link 155 = .ok (.aload_n 0, 1) := by decide +kernel
theorem dX8_link_156 : decode cX8_link 156 = .ok (.iload_n 2, 1) := by decide +kernel
theorem dX8_link_157 : decode cX8_link 157 = .ok (.iload_n 3, 1) := by decide +kernel
theorem dX8_link_158 : decode cX8_link 158 = .ok (.invokevirtual 178, 3) := by decide +kernel
theorem dX8_link_161 : decode cX8_link 161 = .ok (.ldc2_w 181, 3) := by decide +kernel
theorem dX8_link_164 : decode cX8_link 164 = .ok (.invokevirtual 168, 3) := by decide +kernel
theorem dX8_link_167 : decode cX8_link 167 = .ok (.return_, 1) := by decide +kernel
theorem dX8_linkage_0 : decode cX8_linkage 0 = .ok (.iconst 1, 1) := by decide +kernel
theorem dX8_linkage_1 : decode cX8_linkage 1 = .ok (.aload_n 0, 1) := by decide +kernel
theorem dX8_linkage_2 : decode cX8_linkage 2 = .ok (.getfield 107, 3) := by decide +kernel
theorem dX8_linkage_5 : decode cX8_linkage 5 = .ok (.ishl, 1) := by decide +kernel
theorem dX8_linkage_6 : decode cX8_linkage 6 = .ok (.iconst 1, 1) := by decide +kernel
theorem dX8_linkage_7 : decode cX8_linkage 7 = .ok (.isub, 1) := by decide +kernel
theorem dX8_linkage_8 : decode cX8_linkage 8 = .ok (.istore 5, 2) := by decide +kernel
theorem dX8_linkage_10 : decode cX8_linkage 10 = .ok (.iload_n 2, 1) := by decide +kernel
theorem dX8_linkage_11 : decode cX8_linkage 11 = .ok (.iload 5, 2) := by decide +kernel
theorem dX8_linkage_13 : decode cX8_linkage 13 = .ok (.iand, 1) := by decide +kernel
theorem dX8_linkage_14 : decode cX8_linkage 14 = .ok (.istore 6, 2) := by decide +kernel
theorem dX8_linkage_16 : decode cX8_linkage 16 = .ok (.iload_n 3, 1) := by decide +kernel
theorem dX8_linkage_17 : decode cX8_linkage 17 = .ok (.iload 5, 2) := by decide +kernel
theorem dX8_linkage_19 : decode cX8_linkage 19 = .ok (.iand, 1) := by decide +kernel
theorem dX8_linkage_20 : decode cX8_linkage 20 = .ok (.istore 7, 2) := by decide +kernel
theorem dX8_linkage_22 : decode cX8_linkage 22 = .ok (.iload_n 1, 1) := by decide +kernel
theorem dX8_linkage_23 : decode cX8_linkage 23 = .ok (.iconst 4, 1) := by decide +kernel
theorem dX8_linkage_24 : decode cX8_linkage 24 = .ok (.invokestatic 110, 3) := by decide +kernel
theorem dX8_linkage_27 : decode cX8_linkage 27 = .ok (.ifCond .eq 30, 3) := by decide +kernel
theorem dX8_linkage_30 : decode cX8_linkage 30 = .ok (.iload 4, 2) := by decide +kernel
theorem dX8_linkage_32 : decode cX8_linkage 32 = .ok (.iconst 2, 1) := by decide +kernel
theorem dX8_linkage_33 : decode cX8_linkage 33 = .ok (.invokestatic 110, 3) := by decide +kernel
theorem dX8_linkage_36 : decode cX8_linkage 36 = .ok (.ifCond .eq 21, 3) := by decide +kernel
theorem dX8_linkage_39 : decode cX8_linkage 39 = .ok (.iload 6, 2) := by decide +kernel
theorem dX8_linkage_41 : decode cX8_linkage 41 = .ok (.ifCond .eq 16, 3) := by decide +kernel
theorem dX8_linkage_44 : decode cX8_linkage 44 = .ok (.iload 7, 2) := by decide +kernel
theorem dX8_linkage_46 : decode cX8_linkage 46 = .ok (.ifCond .eq 11, 3) := by decide +kernel
theorem dX8_linkage_49 : decode cX8_linkage 49 = .ok (.iload 6, 2) := by decide +kernel
theorem dX8_linkage_51 : decode cX8_linkage 51 = .ok (.iload 7, 2) := by decide +kernel
theorem dX8_linkage_53 : decode cX8_linkage 53 = .ok (.iand, 1) := by decide +kernel
theorem dX8_linkage_54 : decode cX8_linkage 54 = .ok (.ifCond .eq 7, 3) := by decide +kernel
theorem dX8_linkage_57 : decode cX8_linkage 57 = .ok (.ldc2_w 183, 3) := by decide +kernel
theorem dX8_linkage_60 : decode cX8_linkage 60 = .ok (.lreturn, 1) := by decide +kernel
theorem dX8_linkage_61 : decode cX8_linkage 61 = .ok (.aload_n 0, 1) := by decide +kernel
theorem dX8_linkage_62 : decode cX8_linkage 62 = .ok (.iload_n 1, 1) := by decide +kernel
theorem dX8_linkage_63 : decode cX8_linkage 63 = .ok (.iload 6, 2) := by decide +kernel
theorem dX8_linkage_65 : decode cX8_linkage 65 = .ok (.iload 7, 2) := by decide +kernel
theorem dX8_linkage_67 : decode cX8_linkage 67 = .ok (.invokevirtual 185, 3) := by decide +kernel
theorem dX8_linkage_70 : decode cX8_linkage 70 = .ok (.iload 4, 2) := by decide +kernel
theorem dX8_linkage_72 : decode cX8_linkage 72 = .ok (.ifCond .ne 10, 3) := by decide +kernel
theorem dX8_linkage_75 : decode cX8_linkage 75 = .ok (.aload_n 0, 1) := by decide +kernel
theorem dX8_linkage_76 : decode cX8_linkage 76 = .ok (.getfield 154, 3) := by decide +kernel
theorem dX8_linkage_79 : decode cX8_linkage 79 = .ok (.goto 7, 3) := by decide +kernel
theorem dX8_linkage_82 : decode cX8_linkage 82 = .ok (.aload_n 0, 1) := by decide +kernel
theorem dX8_linkage_83 : decode cX8_linkage 83 = .ok (.getfield 158, 3) := by decide +kernel
theorem dX8_linkage_86 : decode cX8_linkage 86 = .ok (.lreturn, 1) := by decide +kernel
theorem dX8_begins_0 : decode cX8_begins 0 = .ok (.aload_n 0, 1) := by decide +kernel
theorem dX8_begins_1 : decode cX8_begins 1 = .ok (.iconst 0, 1) := by decide +kernel
theorem dX8_begins_2 : decode cX8_begins 2 = .ok (.putfield 147, 3) := by decide +kernel
theorem dX8_begins_5 : decode cX8_begins 5 = .ok (.aload_n 0, 1) := by decide +kernel
theorem dX8_begins_6 : decode cX8_begins 6 = .ok (.iconst 0, 1) := by decide +kernel
theorem dX8_begins_7 : decode cX8_begins 7 = .ok (.putfield 188, 3) := by decide +kernel
theorem dX8_begins_10 : decode cX8_begins 10 = .ok (.iconst 0, 1) := by decide +kernel
theorem dX8_begins_11 : decode cX8_begins 11 = .ok (.istore_n 1, 1) := by decide +kernel
theorem dX8_begins_12 : decode cX8_begins 12 = .ok (.iload_n 1, 1) := by decide +kernel
theorem dX8_begins_13 : decode cX8_begins 13 = .ok (.bipush 40, 2) := by decide +kernel
theorem dX8_begins_15 : decode cX8_begins 15 = .ok (.if_icmp .ge 49, 3) := by decide +kernel
theorem dX8_begins_18 : decode cX8_begins 18 = .ok (.aload_n 0, 1) := by decide +kernel
theorem dX8_begins_19 : decode cX8_begins 19 = .ok (.getfield 71, 3) := by decide +kernel
theorem dX8_begins_22 : decode cX8_begins 22 = .ok (.iload_n 1, 1) := by decide +kernel
theorem dX8_begins_23 : decode cX8_begins 23 = .ok (.iload_n 1, 1) := by decide +kernel
theorem dX8_begins_24 : decode cX8_begins 24 = .ok (.aload_n 0, 1) := by decide +kernel
theorem dX8_begins_25 : decode cX8_begins 25 = .ok (.getfield 107, 3) := by decide +kernel
theorem dX8_begins_28 : decode cX8_begins 28 = .ok (.if_icmp .ge 9, 3) := by decide +kernel
theorem dX8_begins_31 : decode cX8_begins 31 = .ok (.iconst 1, 1) := by decide +kernel
theorem dX8_begins_32 : decode cX8_begins 32 = .ok (.iload_n 1, 1) := by decide +kernel
theorem dX8_begins_33 : decode cX8_begins 33 = .ok (.ishl, 1) := by decide +kernel
theorem dX8_begins_34 : decode cX8_begins 34 = .ok (.goto 4, 3) := by decide +kernel
theorem dX8_begins_37 : decode cX8_begins 37 = .ok (.iconst 0, 1) := by decide +kernel
theorem dX8_begins_38 : decode cX8_begins 38 = .ok (.iastore, 1) := by decide +kernel
theorem dX8_begins_39 : decode cX8_begins 39 = .ok (.aload_n 0, 1) := by decide +kernel
theorem dX8_begins_40 : decode cX8_begins 40 = .ok (.getfield 74, 3) := by decide +kernel
theorem dX8_begins_43 : decode cX8_begins 43 = .ok (.iload_n 1, 1) := by decide +kernel
theorem dX8_begins_44 : decode cX8_begins 44 = .ok (.iload_n 1, 1) := by decide +kernel
theorem dX8_begins_45 : decode cX8_begins 45 = .ok (.aload_n 0, 1) := by decide +kernel
theorem dX8_begins_46 : decode cX8_begins 46 = .ok (.getfield 107, 3) := by decide +kernel
theorem dX8_begins_49 : decode cX8_begins 49 = .ok (.if_icmp .ge 7, 3) := by decide +kernel
theorem dX8_begins_52 : decode cX8_begins 52 = .ok (.iconst 1, 1) := by decide +kernel
theorem dX8_begins_53 : decode cX8_begins 53 = .ok (.goto 4, 3) := by decide +kernel
theorem dX8_begins_56 : decode cX8_begins 56 = .ok (.iconst 0, 1) := by decide +kernel
theorem dX8_begins_57 : decode cX8_begins 57 = .ok (.bastore, 1) := by decide +kernel
theorem dX8_begins_58 : decode cX8_begins 58 = .ok (.iinc 1 1, 3) := by decide +kernel
theorem dX8_begins_61 : decode cX8_begins 61 = .ok (.goto (-49), 3) := by decide +kernel
theorem dX8_begins_64 : decode cX8_begins 64 = .ok (.return_, 1) := by decide +kernel
theorem dX8_joined_0 : decode cX8_joined 0 = .ok (.aload_n 0, 1) := by decide +kernel
theorem dX8_joined_1 : decode cX8_joined 1 = .ok (.getfield 77, 3) := by decide +kernel
theorem dX8_joined_4 : decode cX8_joined 4 = .ok (.aload_n 0, 1) := by decide +kernel
theorem dX8_joined_5 : decode cX8_joined 5 = .ok (.getfield 147, 3) := by decide +kernel
theorem dX8_joined_8 : decode cX8_joined 8 = .ok (.iload_n 1, 1) := by decide +kernel
theorem dX8_joined_9 : decode cX8_joined 9 = .ok (.iload_n 2, 1) := by decide +kernel
theorem dX8_joined_10 : decode cX8_joined 10 = .ok (.if_icmp .ge 7, 3) := by decide +kernel
theorem dX8_joined_13 : decode cX8_joined 13 = .ok (.iload_n 1, 1) := by decide +kernel
theorem dX8_joined_14 : decode cX8_joined 14 = .ok (.goto 4, 3) := by decide +kernel
theorem dX8_joined_17 : decode cX8_joined 17 = .ok (.iload_n 2, 1) := by decide +kernel
theorem dX8_joined_18 : decode cX8_joined 18 = .ok (.iastore, 1) := by decide +kernel
theorem dX8_joined_19 : decode cX8_joined 19 = .ok (.aload_n 0, 1) := by decide +kernel
theorem dX8_joined_20 : decode cX8_joined 20 = .ok (.getfield 80, 3) := by decide +kernel
theorem dX8_joined_23 : decode cX8_joined 23 = .ok (.aload_n 0, 1) := by decide +kernel
theorem dX8_joined_24 : decode cX8_joined 24 = .ok (.getfield 147, 3) := by decide +kernel
theorem dX8_joined_27 : decode cX8_joined 27 = .ok (.iload_n 1, 1) := by decide +kernel
theorem dX8_joined_28 : decode cX8_joined 28 = .ok (.iload_n 2, 1) := by decide +kernel
theorem dX8_joined_29 : decode cX8_joined 29 = .ok (.if_icmp .ge 7, 3) := by decide +kernel
theorem dX8_joined_32 : decode cX8_joined 32 = .ok (.iload_n 2, 1) := by decide +kernel
theorem dX8_joined_33 : decode cX8_joined 33 = .ok (.goto 4, 3) := by decide +kernel
theorem dX8_joined_36 : decode cX8_joined 36 = .ok (.iload_n 1, 1) := by decide +kernel
theorem dX8_joined_37 : decode cX8_joined 37 = .ok (.iastore, 1) := by decide +kernel
theorem dX8_joined_38 : decode cX8_joined 38 = .ok (.aload_n 0, 1) := by decide +kernel
theorem dX8_joined_39 : decode cX8_joined 39 = .ok (.getfield 83, 3) := by decide +kernel
theorem dX8_joined_42 : decode cX8_joined 42 = .ok (.aload_n 0, 1) := by decide +kernel
theorem dX8_joined_43 : decode cX8_joined 43 = .ok (.getfield 147, 3) := by decide +kernel
theorem dX8_joined_46 : decode cX8_joined 46 = .ok (.aload_n 0, 1) := by decide +kernel
theorem dX8_joined_47 : decode cX8_joined 47 = .ok (.getfield 154, 3) := by decide +kernel
theorem dX8_joined_50 : decode cX8_joined 50 = .ok (.lastore, 1) := by decide +kernel
theorem dX8_joined_51 : decode cX8_joined 51 = .ok (.aload_n 0, 1) := by decide +kernel
theorem dX8_joined_52 : decode cX8_joined 52 = .ok (.getfield 86, 3) := by decide +kernel
theorem dX8_joined_55 : decode cX8_joined 55 = .ok (.aload_n 0, 1) := by decide +kernel
theorem dX8_joined_56 : decode cX8_joined 56 = .ok (.getfield 147, 3) := by decide +kernel
theorem dX8_joined_59 : decode cX8_joined 59 = .ok (.aload_n 0, 1) := by decide +kernel
theorem dX8_joined_60 : decode cX8_joined 60 = .ok (.getfield 158, 3) := by decide +kernel
theorem dX8_joined_63 : decode cX8_joined 63 = .ok (.lastore, 1) := by decide +kernel
theorem dX8_joined_64 : decode cX8_joined 64 = .ok (.aload_n 0, 1) := by decide +kernel
theorem dX8_joined_65 : decode cX8_joined 65 = .ok (.getfield 74, 3) := by decide +kernel
theorem dX8_joined_68 : decode cX8_joined 68 = .ok (.iload_n 1, 1) := by decide +kernel
theorem dX8_joined_69 : decode cX8_joined 69 = .ok (.iconst 0, 1) := by decide +kernel
theorem dX8_joined_70 : decode cX8_joined 70 = .ok (.bastore, 1) := by decide +kernel
theorem dX8_joined_71 : decode cX8_joined 71 = .ok (.aload_n 0, 1) := by decide +kernel
theorem dX8_joined_72 : decode cX8_joined 72 = .ok (.getfield 74, 3) := by decide +kernel
theorem dX8_joined_75 : decode cX8_joined 75 = .ok (.iload_n 2, 1) := by decide +kernel
theorem dX8_joined_76 : decode cX8_joined 76 = .ok (.iconst 0, 1) := by decide +kernel
theorem dX8_joined_77 : decode cX8_joined 77 = .ok (.bastore, 1) := by decide +kernel
theorem dX8_joined_78 : decode cX8_joined 78 = .ok (.aload_n 0, 1) := by decide +kernel
theorem dX8_joined_79 : decode cX8_joined 79 = .ok (.getfield 71, 3) := by decide +kernel
theorem dX8_joined_82 : decode cX8_joined 82 = .ok (.aload_n 0, 1) := by decide +kernel
theorem dX8_joined_83 : decode cX8_joined 83 = .ok (.getfield 107, 3) := by decide +kernel
theorem dX8_joined_86 : decode cX8_joined 86 = .ok (.aload_n 0, 1) := by decide +kernel
theorem dX8_joined_87 : decode cX8_joined 87 = .ok (.getfield 147, 3) := by decide +kernel
theorem dX8_joined_90 : decode cX8_joined 90 = .ok (.iadd, 1) := by decide +kernel
theorem dX8_joined_91 : decode cX8_joined 91 = .ok (.aload_n 0, 1) := by decide +kernel
theorem dX8_joined_92 : decode cX8_joined 92 = .ok (.getfield 71, 3) := by decide +kernel
theorem dX8_joined_95 : decode cX8_joined 95 = .ok (.iload_n 1, 1) := by decide +kernel
theorem dX8_joined_96 : decode cX8_joined 96 = .ok (.iaload, 1) := by decide +kernel
theorem dX8_joined_97 : decode cX8_joined 97 = .ok (.aload_n 0, 1) := by decide +kernel
theorem dX8_joined_98 : decode cX8_joined 98 = .ok (.getfield 71, 3) := by decide +kernel
theorem dX8_joined_101 : decode cX8_joined 101 = .ok (.iload_n 2, 1) := by decide +kernel
theorem dX8_joined_102 : decode cX8_joined 102 = .ok (.iaload, 1) := by decide +kernel
theorem dX8_joined_103 : decode cX8_joined 103 = .ok (.ior, 1) := by decide +kernel
theorem dX8_joined_104 : decode cX8_joined 104 = .ok (.iastore, 1) := by decide +kernel
theorem dX8_joined_105 : decode cX8_joined 105 = .ok (.aload_n 0, 1) := by decide +kernel
theorem dX8_joined_106 : decode cX8_joined 106 = .ok (.getfield 74, 3) := by decide +kernel
theorem dX8_joined_109 : decode cX8_joined 109 = .ok (.aload_n 0, 1) := by decide +kernel
theorem dX8_joined_110 : decode cX8_joined 110 = .ok (.getfield 107, 3) := by decide +kernel
theorem dX8_joined_113 : decode cX8_joined 113 = .ok (.aload_n 0, 1) := by decide +kernel
theorem dX8_joined_114 : decode cX8_joined 114 = .ok (.getfield 147, 3) := by decide +kernel
theorem dX8_joined_117 : decode cX8_joined 117 = .ok (.iadd, 1) := by decide +kernel
theorem dX8_joined_118 : decode cX8_joined 118 = .ok (.iconst 1, 1) := by decide +kernel
theorem dX8_joined_119 : decode cX8_joined 119 = .ok (.bastore, 1) := by decide +kernel
theorem dX8_joined_120 : decode cX8_joined 120 = .ok (.aload_n 0, 1) := by decide +kernel
theorem dX8_joined_121 : decode cX8_joined 121 = .ok (.getfield 33, 3) := by decide +kernel
theorem dX8_joined_124 : decode cX8_joined 124 = .ok (.aload_n 0, 1) := by decide +kernel
theorem dX8_joined_125 : decode cX8_joined 125 = .ok (.getfield 147, 3) := by decide +kernel
theorem dX8_joined_128 : decode cX8_joined 128 = .ok (.aload_n 0, 1) := by decide +kernel
theorem dX8_joined_129 : decode cX8_joined 129 = .ok (.getfield 71, 3) := by decide +kernel
theorem dX8_joined_132 : decode cX8_joined 132 = .ok (.aload_n 0, 1) := by decide +kernel
theorem dX8_joined_133 : decode cX8_joined 133 = .ok (.getfield 107, 3) := by decide +kernel
theorem dX8_joined_136 : decode cX8_joined 136 = .ok (.aload_n 0, 1) := by decide +kernel
theorem dX8_joined_137 : decode cX8_joined 137 = .ok (.getfield 147, 3) := by decide +kernel
theorem dX8_joined_140 : decode cX8_joined 140 = .ok (.iadd, 1) := by decide +kernel
theorem dX8_joined_141 : decode cX8_joined 141 = .ok (.iaload, 1) := by decide +kernel
theorem dX8_joined_142 : decode cX8_joined 142 = .ok (.iastore, 1) := by decide +kernel
theorem dX8_joined_143 : decode cX8_joined 143 = .ok (.aload_n 0, 1) := by decide +kernel
theorem dX8_joined_144 : decode cX8_joined 144 = .ok (.dup, 1) := by decide +kernel
theorem dX8_joined_145 : decode cX8_joined 145 = .ok (.getfield 147, 3) := by decide +kernel
theorem dX8_joined_148 : decode cX8_joined 148 = .ok (.iconst 1, 1) := by decide +kernel
theorem dX8_joined_149 : decode cX8_joined 149 = .ok (.iadd, 1) := by decide +kernel
theorem dX8_joined_150 : decode cX8_joined 150 = .ok (.putfield 147, 3) := by decide +kernel
theorem dX8_joined_153 : decode cX8_joined 153 = .ok (.return_, 1) := by decide +kernel
theorem dX8_compare_0 : decode cX8_compare 0 = .ok (.lload_n 0, 1) := by decide +kernel
theorem dX8_compare_1 : decode cX8_compare 1 = .ok (.lload 6, 2) := by decide +kernel
theorem dX8_compare_3 : decode cX8_compare 3 = .ok (.lmul, 1) := by decide +kernel
theorem dX8_compare_4 : decode cX8_compare 4 = .ok (.lload 4, 2) := by decide +kernel
theorem dX8_compare_6 : decode cX8_compare 6 = .ok (.lload_n 2, 1) := by decide +kernel
theorem dX8_compare_7 : decode cX8_compare 7 = .ok (.lmul, 1) := by decide +kernel
theorem dX8_compare_8 : decode cX8_compare 8 = .ok (.lsub, 1) := by decide +kernel
theorem dX8_compare_9 : decode cX8_compare 9 = .ok (.lstore 8, 2) := by decide +kernel
theorem dX8_compare_11 : decode cX8_compare 11 = .ok (.lload 8, 2) := by decide +kernel
theorem dX8_compare_13 : decode cX8_compare 13 = .ok (.lconst 0, 1) := by decide +kernel
theorem dX8_compare_14 : decode cX8_compare 14 = .ok (.lcmp, 1) := by decide +kernel
theorem dX8_compare_15 : decode cX8_compare 15 = .ok (.ifCond .ge 7, 3) := by decide +kernel
theorem dX8_compare_18 : decode cX8_compare 18 = .ok (.iconst (-1), 1) := by decide +kernel
theorem dX8_compare_19 : decode cX8_compare 19 = .ok (.goto 15, 3) := by decide +kernel
theorem dX8_compare_22 : decode cX8_compare 22 = .ok (.lload 8, 2) := by decide +kernel
theorem dX8_compare_24 : decode cX8_compare 24 = .ok (.lconst 0, 1) := by decide +kernel
theorem dX8_compare_25 : decode cX8_compare 25 = .ok (.lcmp, 1) := by decide +kernel
theorem dX8_compare_26 : decode cX8_compare 26 = .ok (.ifCond .le 7, 3) := by decide +kernel
theorem dX8_compare_29 : decode cX8_compare 29 = .ok (.iconst 1, 1) := by decide +kernel
theorem dX8_compare_30 : decode cX8_compare 30 = .ok (.goto 4, 3) := by decide +kernel
theorem dX8_compare_33 : decode cX8_compare 33 = .ok (.iconst 0, 1) := by decide +kernel
theorem dX8_compare_34 : decode cX8_compare 34 = .ok (.ireturn, 1) := by decide +kernel
theorem dX8_greedyStep_0 : decode cX8_greedyStep 0 = .ok (.iconst (-1), 1) := by decide +kernel
theorem dX8_greedyStep_1 : decode cX8_greedyStep 1 = .ok (.istore_n 2, 1) := by decide +kernel
theorem dX8_greedyStep_2 : decode cX8_greedyStep 2 = .ok (.iconst (-1), 1) := by decide +kernel
theorem dX8_greedyStep_3 : decode cX8_greedyStep 3 = .ok (.istore_n 3, 1) := by decide +kernel
theorem dX8_greedyStep_4 : decode cX8_greedyStep 4 = .ok (.lconst 0, 1) := by decide +kernel
theorem dX8_greedyStep_5 : decode cX8_greedyStep 5 = .ok (.lstore 4, 2) := by decide +kernel
theorem dX8_greedyStep_7 : decode cX8_greedyStep 7 = .ok (.lconst 1, 1) := by decide +kernel
theorem dX8_greedyStep_8 : decode cX8_greedyStep 8 = .ok (.lstore 6, 2) := by decide +kernel
theorem dX8_greedyStep_10 : decode cX8_greedyStep 10 = .ok (.iconst 0, 1) := by decide +kernel
theorem dX8_greedyStep_11 : decode cX8_greedyStep 11 = .ok (.istore 8, 2) := by decide +kernel
theorem dX8_greedyStep_13 : decode cX8_greedyStep 13 = .ok (.iconst 0, 1) := by decide +kernel
theorem dX8_greedyStep_14 : decode cX8_greedyStep 14 = .ok (.istore 9, 2) := by decide +kernel
theorem dX8_greedyStep_16 : decode cX8_greedyStep 16 = .ok (.iload 9, 2) := by decide +kernel
theorem dX8_greedyStep_18 : decode cX8_greedyStep 18 = .ok (.aload_n 0, 1) := by decide +kernel
theorem dX8_greedyStep_19 : decode cX8_greedyStep 19 = .ok (.getfield 107, 3) := by decide +kernel
theorem dX8_greedyStep_22 : decode cX8_greedyStep 22 = .ok (.aload_n 0, 1) := by decide +kernel
theorem dX8_greedyStep_23 : decode cX8_greedyStep 23 = .ok (.getfield 147, 3) := by decide +kernel
theorem dX8_greedyStep_26 : decode cX8_greedyStep 26 = .ok (.iadd, 1) := by decide +kernel
theorem dX8_greedyStep_27 : decode cX8_greedyStep 27 = .ok (.if_icmp .ge 139, 3) := by decide +kernel
theorem dX8_greedyStep_30 : decode cX8_greedyStep 30 = .ok (.iload 9, 2) := by decide +kernel
theorem dX8_greedyStep_32 : decode cX8_greedyStep 32 = .ok (.iconst 1, 1) := by decide +kernel
theorem dX8_greedyStep_33 : decode cX8_greedyStep 33 = .ok (.iadd, 1) := by decide +kernel
theorem dX8_greedyStep_34 : decode cX8_greedyStep 34 = .ok (.istore 10, 2) := by decide +kernel
theorem dX8_greedyStep_36 : decode cX8_greedyStep 36 = .ok (.iload 10, 2) := by decide +kernel
theorem dX8_greedyStep_38 : decode cX8_greedyStep 38 = .ok (.aload_n 0, 1) := by decide +kernel
theorem dX8_greedyStep_39 : decode cX8_greedyStep 39 = .ok (.getfield 107, 3) := by decide +kernel
theorem dX8_greedyStep_42 : decode cX8_greedyStep 42 = .ok (.aload_n 0, 1) := by decide +kernel
theorem dX8_greedyStep_43 : decode cX8_greedyStep 43 = .ok (.getfield 147, 3) := by decide +kernel
theorem dX8_greedyStep_46 : decode cX8_greedyStep 46 = .ok (.iadd, 1) := by decide +kernel
theorem dX8_greedyStep_47 : decode cX8_greedyStep 47 = .ok (.if_icmp .ge 113, 3) := by decide +kernel
theorem dX8_greedyStep_50 : decode cX8_greedyStep 50 = .ok (.aload_n 0, 1) := by decide +kernel
theorem dX8_greedyStep_51 : decode cX8_greedyStep 51 = .ok (.getfield 74, 3) := by decide +kernel
theorem dX8_greedyStep_54 : decode cX8_greedyStep 54 = .ok (.iload 9, 2) := by decide +kernel
theorem dX8_greedyStep_56 : decode cX8_greedyStep 56 = .ok (.baload, 1) := by decide +kernel
theorem dX8_greedyStep_57 : decode cX8_greedyStep 57 = .ok (.ifCond .eq 97, 3) := by decide +kernel
theorem dX8_greedyStep_60 : decode cX8_greedyStep 60 = .ok (.aload_n 0, 1) := by decide +kernel
theorem dX8_greedyStep_61 : decode cX8_greedyStep 61 = .ok (.getfield 74, 3) := by decide +kernel
theorem dX8_greedyStep_64 : decode cX8_greedyStep 64 = .ok (.iload 10, 2) := by decide +kernel
theorem dX8_greedyStep_66 : decode cX8_greedyStep 66 = .ok (.baload, 1) := by decide +kernel
theorem dX8_greedyStep_67 : decode cX8_greedyStep 67 = .ok (.ifCond .ne 6, 3) := by decide +kernel
theorem dX8_greedyStep_70 : decode cX8_greedyStep 70 = .ok (.goto 84, 3) := by decide +kernel
theorem dX8_greedyStep_73 : decode cX8_greedyStep 73 = .ok (.aload_n 0, 1) := by decide +kernel
theorem dX8_greedyStep_74 : decode cX8_greedyStep 74 = .ok (.iload_n 1, 1) := by decide +kernel
theorem dX8_greedyStep_75 : decode cX8_greedyStep 75 = .ok (.aload_n 0, 1) := by decide +kernel
theorem dX8_greedyStep_76 : decode cX8_greedyStep 76 = .ok (.getfield 71, 3) := by decide +kernel
theorem dX8_greedyStep_79 : decode cX8_greedyStep 79 = .ok (.iload 9, 2) := by decide +kernel
theorem dX8_greedyStep_81 : decode cX8_greedyStep 81 = .ok (.iaload, 1) := by decide +kernel
theorem dX8_greedyStep_82 : decode cX8_greedyStep 82 = .ok (.aload_n 0, 1) := by decide +kernel
theorem dX8_greedyStep_83 : decode cX8_greedyStep 83 = .ok (.getfield 71, 3) := by decide +kernel
theorem dX8_greedyStep_86 : decode cX8_greedyStep 86 = .ok (.iload 10, 2) := by decide +kernel
theorem dX8_greedyStep_88 : decode cX8_greedyStep 88 = .ok (.iaload, 1) := by decide +kernel
theorem dX8_greedyStep_89 : decode cX8_greedyStep 89 = .ok (.invokevirtual 185, 3) := by decide +kernel
theorem dX8_greedyStep_92 : decode cX8_greedyStep 92 = .ok (.iload_n 2, 1) := by decide +kernel
theorem dX8_greedyStep_93 : decode cX8_greedyStep 93 = .ok (.ifCond .ge 7, 3) := by decide +kernel
theorem dX8_greedyStep_96 : decode cX8_greedyStep 96 = .ok (.iconst (-1), 1) := by decide +kernel
theorem dX8_greedyStep_97 : decode cX8_greedyStep 97 = .ok (.goto 18, 3) := by decide +kernel
theorem dX8_greedyStep_100 : decode cX8_greedyStep 100 = .ok (.aload_n 0, 1) := by decide +kernel
theorem dX8_greedyStep_101 : decode cX8_greedyStep 101 = .ok (.getfield 154, 3) := by decide +kernel
theorem dX8_greedyStep_104 : decode cX8_greedyStep 104 = .ok (.aload_n 0, 1) := by decide +kernel
theorem dX8_greedyStep_105 : decode cX8_greedyStep 105 = .ok (.getfield 158, 3) := by decide +kernel
theorem dX8_greedyStep_108 : decode cX8_greedyStep 108 = .ok (.lload 4, 2) := by decide +kernel
theorem dX8_greedyStep_110 : decode cX8_greedyStep 110 = .ok (.lload 6, 2) := by decide +kernel
theorem dX8_greedyStep_112 : decode cX8_greedyStep 112 = .ok (.invokestatic 191, 3) := by decide +kernel
theorem dX8_greedyStep_115 : decode cX8_greedyStep 115 = .ok (.istore 11, 2) := by decide +kernel
theorem dX8_greedyStep_117 : decode cX8_greedyStep 117 = .ok (.iload 11, 2) := by decide +kernel
theorem dX8_greedyStep_119 : decode cX8_greedyStep 119 = .ok (.ifCond .ne 6, 3) := by decide +kernel
theorem dX8_greedyStep_122 : decode cX8_greedyStep 122 = .ok (.iconst 1, 1) := by decide +kernel
theorem dX8_greedyStep_123 : decode cX8_greedyStep 123 = .ok (.istore 8, 2) := by decide +kernel
theorem dX8_greedyStep_125 : decode cX8_greedyStep 125 = .ok (.iload 11, 2) := by decide +kernel
theorem dX8_greedyStep_127 : decode cX8_greedyStep 127 = .ok (.ifCond .lt 6, 3) := by decide +kernel
theorem dX8_greedyStep_130 : decode cX8_greedyStep 130 = .ok (.goto 24, 3) := by decide +kernel
theorem dX8_greedyStep_133 : decode cX8_greedyStep 133 = .ok (.iconst 0, 1) := by decide +kernel
theorem dX8_greedyStep_134 : decode cX8_greedyStep 134 = .ok (.istore 8, 2) := by decide +kernel
theorem dX8_greedyStep_136 : decode cX8_greedyStep 136 = .ok (.iload 9, 2) := by decide +kernel
theorem dX8_greedyStep_138 : decode cX8_greedyStep 138 = .ok (.istore_n 2, 1) := by decide +kernel
theorem dX8_greedyStep_139 : decode cX8_greedyStep 139 = .ok (.iload 10, 2) := by decide +kernel
theorem dX8_greedyStep_141 : decode cX8_greedyStep 141 = .ok (.istore_n 3, 1) := by decide +kernel
theorem dX8_greedyStep_142 : decode cX8_greedyStep 142 = .ok (.aload_n 0, 1) := by decide +kernel
theorem dX8_greedyStep_143 : decode cX8_greedyStep 143 = .ok (.getfield 154, 3) := by decide +kernel
theorem dX8_greedyStep_146 : decode cX8_greedyStep 146 = .ok (.lstore 4, 2) := by decide +kernel
theorem dX8_greedyStep_148 : decode cX8_greedyStep 148 = .ok (.aload_n 0, 1) := by decide +kernel
theorem dX8_greedyStep_149 : decode cX8_greedyStep 149 = .ok (.getfield 158, 3) := by decide +kernel
theorem dX8_greedyStep_152 : decode cX8_greedyStep 152 = .ok (.lstore 6, 2) := by decide +kernel
theorem dX8_greedyStep_154 : decode cX8_greedyStep 154 = .ok (.iinc 10 1, 3) := by decide +kernel
theorem dX8_greedyStep_157 : decode cX8_greedyStep 157 = .ok (.goto (-121), 3) := by decide +kernel
theorem dX8_greedyStep_160 : decode cX8_greedyStep 160 = .ok (.iinc 9 1, 3) := by decide +kernel
theorem dX8_greedyStep_163 : decode cX8_greedyStep 163 = .ok (.goto (-147), 3) := by decide +kernel
theorem dX8_greedyStep_166 : decode cX8_greedyStep 166 = .ok (.aload_n 0, 1) := by decide +kernel
theorem dX8_greedyStep_167 : decode cX8_greedyStep 167 = .ok (.dup, 1) := by decide +kernel
theorem dX8_greedyStep_168 : decode cX8_greedyStep 168 = .ok (.getfield 188, 3) := by decide +kernel
theorem dX8_greedyStep_171 : decode cX8_greedyStep 171 = .ok (.iload 8, 2) := by decide +kernel
theorem dX8_greedyStep_173 : decode cX8_greedyStep 173 = .ok (.ifCond .eq 7, 3) := by decide +kernel
theorem dX8_greedyStep_176 : decode cX8_greedyStep 176 = .ok (.iconst 1, 1) := by decide +kernel
theorem dX8_greedyStep_177 : decode cX8_greedyStep 177 = .ok (.goto 4, 3) := by decide +kernel
theorem dX8_greedyStep_180 : decode cX8_greedyStep 180 = .ok (.iconst 0, 1) := by decide +kernel
theorem dX8_greedyStep_181 : decode cX8_greedyStep 181 = .ok (.iadd, 1) := by decide +kernel
theorem dX8_greedyStep_182 : decode cX8_greedyStep 182 = .ok (.putfield 188, 3) := by decide +kernel
theorem dX8_greedyStep_185 : decode cX8_greedyStep 185 = .ok (.aload_n 0, 1) := by decide +kernel
theorem dX8_greedyStep_186 : decode cX8_greedyStep 186 = .ok (.lload 4, 2) := by decide +kernel
theorem dX8_greedyStep_188 : decode cX8_greedyStep 188 = .ok (.putfield 154, 3) := by decide +kernel
theorem dX8_greedyStep_191 : decode cX8_greedyStep 191 = .ok (.aload_n 0, 1) := by decide +kernel
theorem dX8_greedyStep_192 : decode cX8_greedyStep 192 = .ok (.lload 6, 2) := by decide +kernel
theorem dX8_greedyStep_194 : decode cX8_greedyStep 194 = .ok (.putfield 158, 3) := by decide +kernel
theorem dX8_greedyStep_197 : decode cX8_greedyStep 197 = .ok (.aload_n 0, 1) := by decide +kernel
theorem dX8_greedyStep_198 : decode cX8_greedyStep 198 = .ok (.iload_n 2, 1) := by decide +kernel
theorem dX8_greedyStep_199 : decode cX8_greedyStep 199 = .ok (.iload_n 3, 1) := by decide +kernel
theorem dX8_greedyStep_200 : decode cX8_greedyStep 200 = .ok (.invokevirtual 195, 3) := by decide +kernel
theorem dX8_greedyStep_203 : decode cX8_greedyStep 203 = .ok (.return_, 1) := by decide +kernel
theorem dX8_chainStep_0 : decode cX8_chainStep 0 = .ok (.aload_n 0, 1) := by decide +kernel
theorem dX8_chainStep_1 : decode cX8_chainStep 1 = .ok (.getfield 199, 3) := by decide +kernel
theorem dX8_chainStep_4 : decode cX8_chainStep 4 = .ok (.ifCond .ne 32, 3) := by decide +kernel
theorem dX8_chainStep_7 : decode cX8_chainStep 7 = .ok (.iconst 0, 1) := by decide +kernel
theorem dX8_chainStep_8 : decode cX8_chainStep 8 = .ok (.istore_n 2, 1) := by decide +kernel
theorem dX8_chainStep_9 : decode cX8_chainStep 9 = .ok (.aload_n 0, 1) := by decide +kernel
theorem dX8_chainStep_10 : decode cX8_chainStep 10 = .ok (.getfield 74, 3) := by decide +kernel
theorem dX8_chainStep_13 : decode cX8_chainStep 13 = .ok (.iload_n 2, 1) := by decide +kernel
theorem dX8_chainStep_14 : decode cX8_chainStep 14 = .ok (.baload, 1) := by decide +kernel
theorem dX8_chainStep_15 : decode cX8_chainStep 15 = .ok (.ifCond .ne 9, 3) := by decide +kernel
theorem dX8_chainStep_18 : decode cX8_chainStep 18 = .ok (.iinc 2 1, 3) := by decide +kernel
theorem dX8_chainStep_21 : decode cX8_chainStep 21 = .ok (.goto (-12), 3) := by decide +kernel
theorem dX8_chainStep_24 : decode cX8_chainStep 24 = .ok (.aload_n 0, 1) := by decide +kernel
theorem dX8_chainStep_25 : decode cX8_chainStep 25 = .ok (.getfield 89, 3) := by decide +kernel
theorem dX8_chainStep_28 : decode cX8_chainStep 28 = .ok (.iconst 0, 1) := by decide +kernel
theorem dX8_chainStep_29 : decode cX8_chainStep 29 = .ok (.iload_n 2, 1) := by decide +kernel
theorem dX8_chainStep_30 : decode cX8_chainStep 30 = .ok (.iastore, 1) := by decide +kernel
theorem dX8_chainStep_31 : decode cX8_chainStep 31 = .ok (.aload_n 0, 1) := by decide +kernel
theorem dX8_chainStep_32 : decode cX8_chainStep 32 = .ok (.iconst 1, 1) := by decide +kernel
theorem dX8_chainStep_33 : decode cX8_chainStep 33 = .ok (.putfield 199, 3) := by decide +kernel
theorem dX8_chainStep_36 : decode cX8_chainStep 36 = .ok (.aload_n 0, 1) := by decide +kernel
theorem dX8_chainStep_37 : decode cX8_chainStep 37 = .ok (.getfield 89, 3) := by decide +kernel
theorem dX8_chainStep_40 : decode cX8_chainStep 40 = .ok (.aload_n 0, 1) := by decide +kernel
theorem dX8_chainStep_41 : decode cX8_chainStep 41 = .ok (.getfield 199, 3) := by decide +kernel
theorem dX8_chainStep_44 : decode cX8_chainStep 44 = .ok (.iconst 1, 1) := by decide +kernel
theorem dX8_chainStep_45 : decode cX8_chainStep 45 = .ok (.isub, 1) := by decide +kernel
theorem dX8_chainStep_46 : decode cX8_chainStep 46 = .ok (.iaload, 1) := by decide +kernel
theorem dX8_chainStep_47 : decode cX8_chainStep 47 = .ok (.istore_n 2, 1) := by decide +kernel
theorem dX8_chainStep_48 : decode cX8_chainStep 48 = .ok (.aload_n 0, 1) := by decide +kernel
theorem dX8_chainStep_49 : decode cX8_chainStep 49 = .ok (.getfield 199, 3) := by decide +kernel
theorem dX8_chainStep_52 : decode cX8_chainStep 52 = .ok (.iconst 1, 1) := by decide +kernel
theorem dX8_chainStep_53 : decode cX8_chainStep 53 = .ok (.if_icmp .le 17, 3) := by decide +kernel
theorem dX8_chainStep_56 : decode cX8_chainStep 56 = .ok (.aload_n 0, 1) := by decide +kernel
theorem dX8_chainStep_57 : decode cX8_chainStep 57 = .ok (.getfield 89, 3) := by decide +kernel
theorem dX8_chainStep_60 : decode cX8_chainStep 60 = .ok (.aload_n 0, 1) := by decide +kernel
theorem dX8_chainStep_61 : decode cX8_chainStep 61 = .ok (.getfield 199, 3) := by decide +kernel
theorem dX8_chainStep_64 : decode cX8_chainStep 64 = .ok (.iconst 2, 1) := by decide +kernel
theorem dX8_chainStep_65 : decode cX8_chainStep 65 = .ok (.isub, 1) := by decide +kernel
theorem dX8_chainStep_66 : decode cX8_chainStep 66 = .ok (.iaload, 1) := by decide +kernel
theorem dX8_chainStep_67 : decode cX8_chainStep 67 = .ok (.goto 4, 3) := by decide +kernel
theorem dX8_chainStep_70 : decode cX8_chainStep 70 = .ok (.iconst (-1), 1) := by decide +kernel
theorem dX8_chainStep_71 : decode cX8_chainStep 71 = .ok (.istore_n 3, 1) := by decide +kernel
theorem dX8_chainStep_72 : decode cX8_chainStep 72 = .ok (.iconst (-1), 1) := by decide +kernel
theorem dX8_chainStep_73 : decode cX8_chainStep 73 = .ok (.istore 4, 2) := by decide +kernel
theorem dX8_chainStep_75 : decode cX8_chainStep 75 = .ok (.lconst 0, 1) := by decide +kernel
theorem dX8_chainStep_76 : decode cX8_chainStep 76 = .ok (.lstore 5, 2) := by decide +kernel
theorem dX8_chainStep_78 : decode cX8_chainStep 78 = .ok (.lconst 1, 1) := by decide +kernel
theorem dX8_chainStep_79 : decode cX8_chainStep 79 = .ok (.lstore 7, 2) := by decide +kernel
theorem dX8_chainStep_81 : decode cX8_chainStep 81 = .ok (.iconst 0, 1) := by decide +kernel
theorem dX8_chainStep_82 : decode cX8_chainStep 82 = .ok (.istore 9, 2) := by decide +kernel
theorem dX8_chainStep_84 : decode cX8_chainStep 84 = .ok (.iconst 0, 1) := by decide +kernel
theorem dX8_chainStep_85 : decode cX8_chainStep 85 = .ok (.istore 10, 2) := by decide +kernel
theorem dX8_chainStep_87 : decode cX8_chainStep 87 = .ok (.iload 10, 2) := by decide +kernel
theorem dX8_chainStep_89 : decode cX8_chainStep 89 = .ok (.aload_n 0, 1) := by decide +kernel
theorem dX8_chainStep_90 : decode cX8_chainStep 90 = .ok (.getfield 107, 3) := by decide +kernel
theorem dX8_chainStep_93 : decode cX8_chainStep 93 = .ok (.aload_n 0, 1) := by decide +kernel
theorem dX8_chainStep_94 : decode cX8_chainStep 94 = .ok (.getfield 147, 3) := by decide +kernel
theorem dX8_chainStep_97 : decode cX8_chainStep 97 = .ok (.iadd, 1) := by decide +kernel
theorem dX8_chainStep_98 : decode cX8_chainStep 98 = .ok (.if_icmp .ge 117, 3) := by decide +kernel
theorem dX8_chainStep_101 : decode cX8_chainStep 101 = .ok (.aload_n 0, 1) := by decide +kernel
theorem dX8_chainStep_102 : decode cX8_chainStep 102 = .ok (.getfield 74, 3) := by decide +kernel
theorem dX8_chainStep_105 : decode cX8_chainStep 105 = .ok (.iload 10, 2) := by decide +kernel
theorem dX8_chainStep_107 : decode cX8_chainStep 107 = .ok (.baload, 1) := by decide +kernel
theorem dX8_chainStep_108 : decode cX8_chainStep 108 = .ok (.ifCond .eq 101, 3) := by decide +kernel
theorem dX8_chainStep_111 : decode cX8_chainStep 111 = .ok (.iload 10, 2) := by decide +kernel
theorem dX8_chainStep_113 : decode cX8_chainStep 113 = .ok (.iload_n 2, 1) := by decide +kernel
theorem dX8_chainStep_114 : decode cX8_chainStep 114 = .ok (.if_icmp .ne 6, 3) := by decide +kernel
theorem dX8_chainStep_117 : decode cX8_chainStep 117 = .ok (.goto 92, 3) := by decide +kernel
theorem dX8_chainStep_120 : decode cX8_chainStep 120 = .ok (.aload_n 0, 1) := by decide +kernel
theorem dX8_chainStep_121 : decode cX8_chainStep 121 = .ok (.iload_n 1, 1) := by decide +kernel
theorem dX8_chainStep_122 : decode cX8_chainStep 122 = .ok (.aload_n 0, 1) := by decide +kernel
theorem dX8_chainStep_123 : decode cX8_chainStep 123 = .ok (.getfield 71, 3) := by decide +kernel
theorem dX8_chainStep_126 : decode cX8_chainStep 126 = .ok (.iload_n 2, 1) := by decide +kernel
theorem dX8_chainStep_127 : decode cX8_chainStep 127 = .ok (.iaload, 1) := by decide +kernel
theorem dX8_chainStep_128 : decode cX8_chainStep 128 = .ok (.aload_n 0, 1) := by decide +kernel
theorem dX8_chainStep_129 : decode cX8_chainStep 129 = .ok (.getfield 71, 3) := by decide +kernel
theorem dX8_chainStep_132 : decode cX8_chainStep 132 = .ok (.iload 10, 2) := by decide +kernel
theorem dX8_chainStep_134 : decode cX8_chainStep 134 = .ok (.iaload, 1) := by decide +kernel
theorem dX8_chainStep_135 : decode cX8_chainStep 135 = .ok (.invokevirtual 185, 3) := by decide +kernel
theorem dX8_chainStep_138 : decode cX8_chainStep 138 = .ok (.iload 4, 2) := by decide +kernel
theorem dX8_chainStep_140 : decode cX8_chainStep 140 = .ok (.ifCond .ge 7, 3) := by decide +kernel
theorem dX8_chainStep_143 : decode cX8_chainStep 143 = .ok (.iconst (-1), 1) := by decide +kernel
theorem dX8_chainStep_144 : decode cX8_chainStep 144 = .ok (.goto 18, 3) := by decide +kernel
theorem dX8_chainStep_147 : decode cX8_chainStep 147 = .ok (.aload_n 0, 1) := by decide +kernel
theorem dX8_chainStep_148 : decode cX8_chainStep 148 = .ok (.getfield 154, 3) := by decide +kernel
theorem dX8_chainStep_151 : decode cX8_chainStep 151 = .ok (.aload_n 0, 1) := by decide +kernel
theorem dX8_chainStep_152 : decode cX8_chainStep 152 = .ok (.getfield 158, 3) := by decide +kernel
theorem dX8_chainStep_155 : decode cX8_chainStep 155 = .ok (.lload 5, 2) := by decide +kernel
theorem dX8_chainStep_157 : decode cX8_chainStep 157 = .ok (.lload 7, 2) := by decide +kernel
theorem dX8_chainStep_159 : decode cX8_chainStep 159 = .ok (.invokestatic 191, 3) := by decide +kernel
theorem dX8_chainStep_162 : decode cX8_chainStep 162 = .ok (.istore 11, 2) := by decide +kernel
theorem dX8_chainStep_164 : decode cX8_chainStep 164 = .ok (.iload 11, 2) := by decide +kernel
theorem dX8_chainStep_166 : decode cX8_chainStep 166 = .ok (.ifCond .ne 16, 3) := by decide +kernel
theorem dX8_chainStep_169 : decode cX8_chainStep 169 = .ok (.iconst 1, 1) := by decide +kernel
theorem dX8_chainStep_170 : decode cX8_chainStep 170 = .ok (.istore 9, 2) := by decide +kernel
theorem dX8_chainStep_172 : decode cX8_chainStep 172 = .ok (.iload 10, 2) := by decide +kernel
theorem dX8_chainStep_174 : decode cX8_chainStep 174 = .ok (.iload_n 3, 1) := by decide +kernel
theorem dX8_chainStep_175 : decode cX8_chainStep 175 = .ok (.if_icmp .ne 7, 3) := by decide +kernel
theorem dX8_chainStep_178 : decode cX8_chainStep 178 = .ok (.iload 10, 2) := by decide +kernel
theorem dX8_chainStep_180 : decode cX8_chainStep 180 = .ok (.istore 4, 2) := by decide +kernel
theorem dX8_chainStep_182 : decode cX8_chainStep 182 = .ok (.iload 11, 2) := by decide +kernel
theorem dX8_chainStep_184 : decode cX8_chainStep 184 = .ok (.ifCond .lt 6, 3) := by decide +kernel
theorem dX8_chainStep_187 : decode cX8_chainStep 187 = .ok (.goto 22, 3) := by decide +kernel
theorem dX8_chainStep_190 : decode cX8_chainStep 190 = .ok (.iconst 0, 1) := by decide +kernel
theorem dX8_chainStep_191 : decode cX8_chainStep 191 = .ok (.istore 9, 2) := by decide +kernel
theorem dX8_chainStep_193 : decode cX8_chainStep 193 = .ok (.iload 10, 2) := by decide +kernel
theorem dX8_chainStep_195 : decode cX8_chainStep 195 = .ok (.istore 4, 2) := by decide +kernel
theorem dX8_chainStep_197 : decode cX8_chainStep 197 = .ok (.aload_n 0, 1) := by decide +kernel
theorem dX8_chainStep_198 : decode cX8_chainStep 198 = .ok (.getfield 154, 3) := by decide +kernel
theorem dX8_chainStep_201 : decode cX8_chainStep 201 = .ok (.lstore 5, 2) := by decide +kernel
theorem dX8_chainStep_203 : decode cX8_chainStep 203 = .ok (.aload_n 0, 1) := by decide +kernel
theorem dX8_chainStep_204 : decode cX8_chainStep 204 = .ok (.getfield 158, 3) := by decide +kernel
theorem dX8_chainStep_207 : decode cX8_chainStep 207 = .ok (.lstore 7, 2) := by decide +kernel
theorem dX8_chainStep_209 : decode cX8_chainStep 209 = .ok (.iinc 10 1, 3) := by decide +kernel
theorem dX8_chainStep_212 : decode cX8_chainStep 212 = .ok (.goto (-125), 3) := by decide +kernel
theorem dX8_chainStep_215 : decode cX8_chainStep 215 = .ok (.aload_n 0, 1) := by decide +kernel
theorem dX8_chainStep_216 : decode cX8_chainStep 216 = .ok (.dup, 1) := by decide +kernel
theorem dX8_chainStep_217 : decode cX8_chainStep 217 = .ok (.getfield 188, 3) := by decide +kernel
theorem dX8_chainStep_220 : decode cX8_chainStep 220 = .ok (.iload 9, 2) := by decide +kernel
theorem dX8_chainStep_222 : decode cX8_chainStep 222 = .ok (.ifCond .eq 7, 3) := by decide +kernel
theorem dX8_chainStep_225 : decode cX8_chainStep 225 = .ok (.iconst 1, 1) := by decide +kernel
theorem dX8_chainStep_226 : decode cX8_chainStep 226 = .ok (.goto 4, 3) := by decide +kernel
theorem dX8_chainStep_229 : decode cX8_chainStep 229 = .ok (.iconst 0, 1) := by decide +kernel
theorem dX8_chainStep_230 : decode cX8_chainStep 230 = .ok (.iadd, 1) := by decide +kernel
theorem dX8_chainStep_231 : decode cX8_chainStep 231 = .ok (.putfield 188, 3) := by decide +kernel
theorem dX8_chainStep_234 : decode cX8_chainStep 234 = .ok (.iload 4, 2) := by decide +kernel
theorem dX8_chainStep_236 : decode cX8_chainStep 236 = .ok (.iload_n 3, 1) := by decide +kernel
theorem dX8_chainStep_237 : decode cX8_chainStep 237 = .ok (.if_icmp .ne 35, 3) := by decide +kernel
theorem dX8_chainStep_240 : decode cX8_chainStep 240 = .ok (.aload_n 0, 1) := by decide +kernel
theorem dX8_chainStep_241 : decode cX8_chainStep 241 = .ok (.dup, 1) := by decide +kernel
theorem dX8_chainStep_242 : decode cX8_chainStep 242 = .ok (.getfield 199, 3) := by decide +kernel
theorem dX8_chainStep_245 : decode cX8_chainStep 245 = .ok (.iconst 2, 1) := by decide +kernel
theorem dX8_chainStep_246 : decode cX8_chainStep 246 = .ok (.isub, 1) := by decide +kernel
theorem dX8_chainStep_247 : decode cX8_chainStep 247 = .ok (.putfield 199, 3) := by decide +kernel
theorem dX8_chainStep_250 : decode cX8_chainStep 250 = .ok (.aload_n 0, 1) := by decide +kernel
theorem dX8_chainStep_251 : decode cX8_chainStep 251 = .ok (.lload 5, 2) := by decide +kernel
theorem dX8_chainStep_253 : decode cX8_chainStep 253 = .ok (.putfield 154, 3) := by decide +kernel
theorem dX8_chainStep_256 : decode cX8_chainStep 256 = .ok (.aload_n 0, 1) := by decide +kernel
theorem dX8_chainStep_257 : decode cX8_chainStep 257 = .ok (.lload 7, 2) := by decide +kernel
theorem dX8_chainStep_259 : decode cX8_chainStep 259 = .ok (.putfield 158, 3) := by decide +kernel
theorem dX8_chainStep_262 : decode cX8_chainStep 262 = .ok (.aload_n 0, 1) := by decide +kernel
theorem dX8_chainStep_263 : decode cX8_chainStep 263 = .ok (.iload_n 2, 1) := by decide +kernel
theorem dX8_chainStep_264 : decode cX8_chainStep 264 = .ok (.iload 4, 2) := by decide +kernel
theorem dX8_chainStep_266 : decode cX8_chainStep 266 = .ok (.invokevirtual 195, 3) := by decide +kernel
theorem dX8_chainStep_269 : decode cX8_chainStep 269 = .ok (.goto 24, 3) := by decide +kernel
theorem dX8_chainStep_272 : decode cX8_chainStep 272 = .ok (.aload_n 0, 1) := by decide +kernel
theorem dX8_chainStep_273 : decode cX8_chainStep 273 = .ok (.getfield 89, 3) := by decide +kernel
theorem dX8_chainStep_276 : decode cX8_chainStep 276 = .ok (.aload_n 0, 1) := by decide +kernel
theorem dX8_chainStep_277 : decode cX8_chainStep 277 = .ok (.getfield 199, 3) := by decide +kernel
theorem dX8_chainStep_280 : decode cX8_chainStep 280 = .ok (.iload 4, 2) := by decide +kernel
theorem dX8_chainStep_282 : decode cX8_chainStep 282 = .ok (.iastore, 1) := by decide +kernel
theorem dX8_chainStep_283 : decode cX8_chainStep 283 = .ok (.aload_n 0, 1) := by decide +kernel
theorem dX8_chainStep_284 : decode cX8_chainStep 284 = .ok (.dup, 1) := by decide +kernel
theorem dX8_chainStep_285 : decode cX8_chainStep 285 = .ok (.getfield 199, 3) := by decide +kernel
theorem dX8_chainStep_288 : decode cX8_chainStep 288 = .ok (.iconst 1, 1) := by decide +kernel
theorem dX8_chainStep_289 : decode cX8_chainStep 289 = .ok (.iadd, 1) := by decide +kernel
theorem dX8_chainStep_290 : decode cX8_chainStep 290 = .ok (.putfield 199, 3) := by decide +kernel
theorem dX8_chainStep_293 : decode cX8_chainStep 293 = .ok (.return_, 1) := by decide +kernel
theorem dX8_keeps_0 : decode cX8_keeps 0 = .ok (.iconst 0, 1) := by decide +kernel
theorem dX8_keeps_1 : decode cX8_keeps 1 = .ok (.istore 4, 2) := by decide +kernel
theorem dX8_keeps_3 : decode cX8_keeps 3 = .ok (.iload 4, 2) := by decide +kernel
theorem dX8_keeps_5 : decode cX8_keeps 5 = .ok (.aload_n 0, 1) := by decide +kernel
theorem dX8_keeps_6 : decode cX8_keeps 6 = .ok (.getfield 147, 3) := by decide +kernel
theorem dX8_keeps_9 : decode cX8_keeps 9 = .ok (.if_icmp .ge 101, 3) := by decide +kernel
theorem dX8_keeps_12 : decode cX8_keeps 12 = .ok (.iload 4, 2) := by decide +kernel
theorem dX8_keeps_14 : decode cX8_keeps 14 = .ok (.istore 5, 2) := by decide +kernel
theorem dX8_keeps_16 : decode cX8_keeps 16 = .ok (.iload_n 3, 1) := by decide +kernel
theorem dX8_keeps_17 : decode cX8_keeps 17 = .ok (.ifCond .eq 78, 3) := by decide +kernel
theorem dX8_keeps_20 : decode cX8_keeps 20 = .ok (.iload 5, 2) := by decide +kernel
theorem dX8_keeps_22 : decode cX8_keeps 22 = .ok (.ifCond .le 73, 3) := by decide +kernel
theorem dX8_keeps_25 : decode cX8_keeps 25 = .ok (.aload_n 0, 1) := by decide +kernel
theorem dX8_keeps_26 : decode cX8_keeps 26 = .ok (.getfield 83, 3) := by decide +kernel
theorem dX8_keeps_29 : decode cX8_keeps 29 = .ok (.aload_n 0, 1) := by decide +kernel
theorem dX8_keeps_30 : decode cX8_keeps 30 = .ok (.getfield 92, 3) := by decide +kernel
theorem dX8_keeps_33 : decode cX8_keeps 33 = .ok (.iload 5, 2) := by decide +kernel
theorem dX8_keeps_35 : decode cX8_keeps 35 = .ok (.iconst 1, 1) := by decide +kernel
theorem dX8_keeps_36 : decode cX8_keeps 36 = .ok (.isub, 1) := by decide +kernel
theorem dX8_keeps_37 : decode cX8_keeps 37 = .ok (.iaload, 1) := by decide +kernel
theorem dX8_keeps_38 : decode cX8_keeps 38 = .ok (.laload, 1) := by decide +kernel
theorem dX8_keeps_39 : decode cX8_keeps 39 = .ok (.aload_n 0, 1) := by decide +kernel
theorem dX8_keeps_40 : decode cX8_keeps 40 = .ok (.getfield 86, 3) := by decide +kernel
theorem dX8_keeps_43 : decode cX8_keeps 43 = .ok (.aload_n 0, 1) := by decide +kernel
theorem dX8_keeps_44 : decode cX8_keeps 44 = .ok (.getfield 92, 3) := by decide +kernel
theorem dX8_keeps_47 : decode cX8_keeps 47 = .ok (.iload 5, 2) := by decide +kernel
theorem dX8_keeps_49 : decode cX8_keeps 49 = .ok (.iconst 1, 1) := by decide +kernel
theorem dX8_keeps_50 : decode cX8_keeps 50 = .ok (.isub, 1) := by decide +kernel
theorem dX8_keeps_51 : decode cX8_keeps 51 = .ok (.iaload, 1) := by decide +kernel
theorem dX8_keeps_52 : decode cX8_keeps 52 = .ok (.laload, 1) := by decide +kernel
theorem dX8_keeps_53 : decode cX8_keeps 53 = .ok (.aload_n 0, 1) := by decide +kernel
theorem dX8_keeps_54 : decode cX8_keeps 54 = .ok (.getfield 83, 3) := by decide +kernel
theorem dX8_keeps_57 : decode cX8_keeps 57 = .ok (.iload 4, 2) := by decide +kernel
theorem dX8_keeps_59 : decode cX8_keeps 59 = .ok (.laload, 1) := by decide +kernel
theorem dX8_keeps_60 : decode cX8_keeps 60 = .ok (.aload_n 0, 1) := by decide +kernel
theorem dX8_keeps_61 : decode cX8_keeps 61 = .ok (.getfield 86, 3) := by decide +kernel
theorem dX8_keeps_64 : decode cX8_keeps 64 = .ok (.iload 4, 2) := by decide +kernel
theorem dX8_keeps_66 : decode cX8_keeps 66 = .ok (.laload, 1) := by decide +kernel
theorem dX8_keeps_67 : decode cX8_keeps 67 = .ok (.invokestatic 191, 3) := by decide +kernel
theorem dX8_keeps_70 : decode cX8_keeps 70 = .ok (.ifCond .le 25, 3) := by decide +kernel
theorem dX8_keeps_73 : decode cX8_keeps 73 = .ok (.aload_n 0, 1) := by decide +kernel
theorem dX8_keeps_74 : decode cX8_keeps 74 = .ok (.getfield 92, 3) := by decide +kernel
theorem dX8_keeps_77 : decode cX8_keeps 77 = .ok (.iload 5, 2) := by decide +kernel
theorem dX8_keeps_79 : decode cX8_keeps 79 = .ok (.aload_n 0, 1) := by decide +kernel
theorem dX8_keeps_80 : decode cX8_keeps 80 = .ok (.getfield 92, 3) := by decide +kernel
theorem dX8_keeps_83 : decode cX8_keeps 83 = .ok (.iload 5, 2) := by decide +kernel
theorem dX8_keeps_85 : decode cX8_keeps 85 = .ok (.iconst 1, 1) := by decide +kernel
theorem dX8_keeps_86 : decode cX8_keeps 86 = .ok (.isub, 1) := by decide +kernel
theorem dX8_keeps_87 : decode cX8_keeps 87 = .ok (.iaload, 1) := by decide +kernel
theorem dX8_keeps_88 : decode cX8_keeps 88 = .ok (.iastore, 1) := by decide +kernel
theorem dX8_keeps_89 : decode cX8_keeps 89 = .ok (.iinc 5 (-1), 3) := by decide +kernel
theorem dX8_keeps_92 : decode cX8_keeps 92 = .ok (.goto (-76), 3) := by decide +kernel
theorem dX8_keeps_95 : decode cX8_keeps 95 = .ok (.aload_n 0, 1) := by decide +kernel
theorem dX8_keeps_96 : decode cX8_keeps 96 = .ok (.getfield 92, 3) := by decide +kernel
theorem dX8_keeps_99 : decode cX8_keeps 99 = .ok (.iload 5, 2) := by decide +kernel
theorem dX8_keeps_101 : decode cX8_keeps 101 = .ok (.iload 4, 2) := by decide +kernel
theorem dX8_keeps_103 : decode cX8_keeps 103 = .ok (.iastore, 1) := by decide +kernel
theorem dX8_keeps_104 : decode cX8_keeps 104 = .ok (.iinc 4 1, 3) := by decide +kernel
theorem dX8_keeps_107 : decode cX8_keeps 107 = .ok (.goto (-104), 3) := by decide +kernel
theorem dX8_keeps_110 : decode cX8_keeps 110 = .ok (.iconst 0, 1) := by decide +kernel
theorem dX8_keeps_111 : decode cX8_keeps 111 = .ok (.istore 4, 2) := by decide +kernel
theorem dX8_keeps_113 : decode cX8_keeps 113 = .ok (.iload 4, 2) := by decide +kernel
theorem dX8_keeps_115 : decode cX8_keeps 115 = .ok (.aload_n 0, 1) := by decide +kernel
theorem dX8_keeps_116 : decode cX8_keeps 116 = .ok (.getfield 107, 3) := by decide +kernel
theorem dX8_keeps_119 : decode cX8_keeps 119 = .ok (.if_icmp .ge 18, 3) := by decide +kernel
theorem dX8_keeps_122 : decode cX8_keeps 122 = .ok (.aload_n 0, 1) := by decide +kernel
theorem dX8_keeps_123 : decode cX8_keeps 123 = .ok (.getfield 95, 3) := by decide +kernel
theorem dX8_keeps_126 : decode cX8_keeps 126 = .ok (.iload 4, 2) := by decide +kernel
theorem dX8_keeps_128 : decode cX8_keeps 128 = .ok (.iload 4, 2) := by decide +kernel
theorem dX8_keeps_130 : decode cX8_keeps 130 = .ok (.iastore, 1) := by decide +kernel
theorem dX8_keeps_131 : decode cX8_keeps 131 = .ok (.iinc 4 1, 3) := by decide +kernel
theorem dX8_keeps_134 : decode cX8_keeps 134 = .ok (.goto (-21), 3) := by decide +kernel
theorem dX8_keeps_137 : decode cX8_keeps 137 = .ok (.iconst 0, 1) := by decide +kernel
theorem dX8_keeps_138 : decode cX8_keeps 138 = .ok (.istore 4, 2) := by decide +kernel
theorem dX8_keeps_140 : decode cX8_keeps 140 = .ok (.iload 4, 2) := by decide +kernel
theorem dX8_keeps_142 : decode cX8_keeps 142 = .ok (.aload_n 0, 1) := by decide +kernel
theorem dX8_keeps_143 : decode cX8_keeps 143 = .ok (.getfield 147, 3) := by decide +kernel
theorem dX8_keeps_146 : decode cX8_keeps 146 = .ok (.if_icmp .ge 33, 3) := by decide +kernel
theorem dX8_keeps_149 : decode cX8_keeps 149 = .ok (.aload_n 0, 1) := by decide +kernel
theorem dX8_keeps_150 : decode cX8_keeps 150 = .ok (.getfield 95, 3) := by decide +kernel
theorem dX8_keeps_153 : decode cX8_keeps 153 = .ok (.aload_n 0, 1) := by decide +kernel
theorem dX8_keeps_154 : decode cX8_keeps 154 = .ok (.getfield 107, 3) := by decide +kernel
theorem dX8_keeps_157 : decode cX8_keeps 157 = .ok (.aload_n 0, 1) := by decide +kernel
theorem dX8_keeps_158 : decode cX8_keeps 158 = .ok (.getfield 92, 3) := by decide +kernel
theorem dX8_keeps_161 : decode cX8_keeps 161 = .ok (.iload 4, 2) := by decide +kernel
theorem dX8_keeps_163 : decode cX8_keeps 163 = .ok (.iaload, 1) := by decide +kernel
theorem dX8_keeps_164 : decode cX8_keeps 164 = .ok (.iadd, 1) := by decide +kernel
theorem dX8_keeps_165 : decode cX8_keeps 165 = .ok (.aload_n 0, 1) := by decide +kernel
theorem dX8_keeps_166 : decode cX8_keeps 166 = .ok (.getfield 107, 3) := by decide +kernel
theorem dX8_keeps_169 : decode cX8_keeps 169 = .ok (.iload 4, 2) := by decide +kernel
theorem dX8_keeps_171 : decode cX8_keeps 171 = .ok (.iadd, 1) := by decide +kernel
theorem dX8_keeps_172 : decode cX8_keeps 172 = .ok (.iastore, 1) := by decide +kernel
theorem dX8_keeps_173 : decode cX8_keeps 173 = .ok (.iinc 4 1, 3) := by decide +kernel
theorem dX8_keeps_176 : decode cX8_keeps 176 = .ok (.goto (-36), 3) := by decide +kernel
theorem dX8_keeps_179 : decode cX8_keeps 179 = .ok (.iconst 0, 1) := by decide +kernel
theorem dX8_keeps_180 : decode cX8_keeps 180 = .ok (.istore 4, 2) := by decide +kernel
theorem dX8_keeps_182 : decode cX8_keeps 182 = .ok (.iload 4, 2) := by decide +kernel
theorem dX8_keeps_184 : decode cX8_keeps 184 = .ok (.aload_n 0, 1) := by decide +kernel
theorem dX8_keeps_185 : decode cX8_keeps 185 = .ok (.getfield 147, 3) := by decide +kernel
theorem dX8_keeps_188 : decode cX8_keeps 188 = .ok (.if_icmp .ge 155, 3) := by decide +kernel
theorem dX8_keeps_191 : decode cX8_keeps 191 = .ok (.aload_n 0, 1) := by decide +kernel
theorem dX8_keeps_192 : decode cX8_keeps 192 = .ok (.getfield 95, 3) := by decide +kernel
theorem dX8_keeps_195 : decode cX8_keeps 195 = .ok (.aload_n 0, 1) := by decide +kernel
theorem dX8_keeps_196 : decode cX8_keeps 196 = .ok (.getfield 77, 3) := by decide +kernel
theorem dX8_keeps_199 : decode cX8_keeps 199 = .ok (.aload_n 0, 1) := by decide +kernel
theorem dX8_keeps_200 : decode cX8_keeps 200 = .ok (.getfield 92, 3) := by decide +kernel
theorem dX8_keeps_203 : decode cX8_keeps 203 = .ok (.iload 4, 2) := by decide +kernel
theorem dX8_keeps_205 : decode cX8_keeps 205 = .ok (.iaload, 1) := by decide +kernel
theorem dX8_keeps_206 : decode cX8_keeps 206 = .ok (.iaload, 1) := by decide +kernel
theorem dX8_keeps_207 : decode cX8_keeps 207 = .ok (.iaload, 1) := by decide +kernel
theorem dX8_keeps_208 : decode cX8_keeps 208 = .ok (.istore 5, 2) := by decide +kernel
theorem dX8_keeps_210 : decode cX8_keeps 210 = .ok (.aload_n 0, 1) := by decide +kernel
theorem dX8_keeps_211 : decode cX8_keeps 211 = .ok (.getfield 95, 3) := by decide +kernel
theorem dX8_keeps_214 : decode cX8_keeps 214 = .ok (.aload_n 0, 1) := by decide +kernel
theorem dX8_keeps_215 : decode cX8_keeps 215 = .ok (.getfield 80, 3) := by decide +kernel
theorem dX8_keeps_218 : decode cX8_keeps 218 = .ok (.aload_n 0, 1) := by decide +kernel
theorem dX8_keeps_219 : decode cX8_keeps 219 = .ok (.getfield 92, 3) := by decide +kernel
theorem dX8_keeps_222 : decode cX8_keeps 222 = .ok (.iload 4, 2) := by decide +kernel
theorem dX8_keeps_224 : decode cX8_keeps 224 = .ok (.iaload, 1) := by decide +kernel
theorem dX8_keeps_225 : decode cX8_keeps 225 = .ok (.iaload, 1) := by decide +kernel
theorem dX8_keeps_226 : decode cX8_keeps 226 = .ok (.iaload, 1) := by decide +kernel
theorem dX8_keeps_227 : decode cX8_keeps 227 = .ok (.istore 6, 2) := by decide +kernel
theorem dX8_keeps_229 : decode cX8_keeps 229 = .ok (.bipush 19, 2) := by decide +kernel
theorem dX8_keeps_231 : decode cX8_keeps 231 = .ok (.iload_n 1, 1) := by decide +kernel
theorem dX8_keeps_232 : decode cX8_keeps 232 = .ok (.imul, 1) := by decide +kernel
theorem dX8_keeps_233 : decode cX8_keeps 233 = .ok (.iload 4, 2) := by decide +kernel
theorem dX8_keeps_235 : decode cX8_keeps 235 = .ok (.iadd, 1) := by decide +kernel
theorem dX8_keeps_236 : decode cX8_keeps 236 = .ok (.istore 7, 2) := by decide +kernel
theorem dX8_keeps_238 : decode cX8_keeps 238 = .ok (.aload_n 0, 1) := by decide +kernel
theorem dX8_keeps_239 : decode cX8_keeps 239 = .ok (.getfield 52, 3) := by decide +kernel
theorem dX8_keeps_242 : decode cX8_keeps 242 = .ok (.iload 7, 2) := by decide +kernel
theorem dX8_keeps_244 : decode cX8_keeps 244 = .ok (.iload 5, 2) := by decide +kernel
theorem dX8_keeps_246 : decode cX8_keeps 246 = .ok (.iload 6, 2) := by decide +kernel
theorem dX8_keeps_248 : decode cX8_keeps 248 = .ok (.if_icmp .ge 8, 3) := by decide +kernel
theorem dX8_keeps_251 : decode cX8_keeps 251 = .ok (.iload 5, 2) := by decide +kernel
theorem dX8_keeps_253 : decode cX8_keeps 253 = .ok (.goto 5, 3) := by decide +kernel
theorem dX8_keeps_256 : decode cX8_keeps 256 = .ok (.iload 6, 2) := by decide +kernel
theorem dX8_keeps_258 : decode cX8_keeps 258 = .ok (.iastore, 1) := by decide +kernel
theorem dX8_keeps_259 : decode cX8_keeps 259 = .ok (.aload_n 0, 1) := by decide +kernel
theorem dX8_keeps_260 : decode cX8_keeps 260 = .ok (.getfield 55, 3) := by decide +kernel
theorem dX8_keeps_263 : decode cX8_keeps 263 = .ok (.iload 7, 2) := by decide +kernel
theorem dX8_keeps_265 : decode cX8_keeps 265 = .ok (.iload 5, 2) := by decide +kernel
theorem dX8_keeps_267 : decode cX8_keeps 267 = .ok (.iload 6, 2) := by decide +kernel
theorem dX8_keeps_269 : decode cX8_keeps 269 = .ok (.if_icmp .ge 8, 3) := by decide +kernel
theorem dX8_keeps_272 : decode cX8_keeps 272 = .ok (.iload 6, 2) := by decide +kernel
theorem dX8_keeps_274 : decode cX8_keeps 274 = .ok (.goto 5, 3) := by decide +kernel
theorem dX8_keeps_277 : decode cX8_keeps 277 = .ok (.iload 5, 2) := by decide +kernel
theorem dX8_keeps_279 : decode cX8_keeps 279 = .ok (.iastore, 1) := by decide +kernel
theorem dX8_keeps_280 : decode cX8_keeps 280 = .ok (.aload_n 0, 1) := by decide +kernel
theorem dX8_keeps_281 : decode cX8_keeps 281 = .ok (.getfield 58, 3) := by decide +kernel
theorem dX8_keeps_284 : decode cX8_keeps 284 = .ok (.iload 7, 2) := by decide +kernel
theorem dX8_keeps_286 : decode cX8_keeps 286 = .ok (.aload_n 0, 1) := by decide +kernel
theorem dX8_keeps_287 : decode cX8_keeps 287 = .ok (.getfield 33, 3) := by decide +kernel
theorem dX8_keeps_290 : decode cX8_keeps 290 = .ok (.aload_n 0, 1) := by decide +kernel
theorem dX8_keeps_291 : decode cX8_keeps 291 = .ok (.getfield 92, 3) := by decide +kernel
theorem dX8_keeps_294 : decode cX8_keeps 294 = .ok (.iload 4, 2) := by decide +kernel
theorem dX8_keeps_296 : decode cX8_keeps 296 = .ok (.iaload, 1) := by decide +kernel
theorem dX8_keeps_297 : decode cX8_keeps 297 = .ok (.iaload, 1) := by decide +kernel
theorem dX8_keeps_298 : decode cX8_keeps 298 = .ok (.iastore, 1) := by decide +kernel
theorem dX8_keeps_299 : decode cX8_keeps 299 = .ok (.aload_n 0, 1) := by decide +kernel
theorem dX8_keeps_300 : decode cX8_keeps 300 = .ok (.getfield 61, 3) := by decide +kernel
theorem dX8_keeps_303 : decode cX8_keeps 303 = .ok (.iload 7, 2) := by decide +kernel
theorem dX8_keeps_305 : decode cX8_keeps 305 = .ok (.aload_n 0, 1) := by decide +kernel
theorem dX8_keeps_306 : decode cX8_keeps 306 = .ok (.getfield 83, 3) := by decide +kernel
theorem dX8_keeps_309 : decode cX8_keeps 309 = .ok (.aload_n 0, 1) := by decide +kernel
theorem dX8_keeps_310 : decode cX8_keeps 310 = .ok (.getfield 92, 3) := by decide +kernel
theorem dX8_keeps_313 : decode cX8_keeps 313 = .ok (.iload 4, 2) := by decide +kernel
theorem dX8_keeps_315 : decode cX8_keeps 315 = .ok (.iaload, 1) := by decide +kernel
theorem dX8_keeps_316 : decode cX8_keeps 316 = .ok (.laload, 1) := by decide +kernel
theorem dX8_keeps_317 : decode cX8_keeps 317 = .ok (.lastore, 1) := by decide +kernel
theorem dX8_keeps_318 : decode cX8_keeps 318 = .ok (.aload_n 0, 1) := by decide +kernel
theorem dX8_keeps_319 : decode cX8_keeps 319 = .ok (.getfield 65, 3) := by decide +kernel
theorem dX8_keeps_322 : decode cX8_keeps 322 = .ok (.iload 7, 2) := by decide +kernel
theorem dX8_keeps_324 : decode cX8_keeps 324 = .ok (.aload_n 0, 1) := by decide +kernel
theorem dX8_keeps_325 : decode cX8_keeps 325 = .ok (.getfield 86, 3) := by decide +kernel
theorem dX8_keeps_328 : decode cX8_keeps 328 = .ok (.aload_n 0, 1) := by decide +kernel
theorem dX8_keeps_329 : decode cX8_keeps 329 = .ok (.getfield 92, 3) := by decide +kernel
theorem dX8_keeps_332 : decode cX8_keeps 332 = .ok (.iload 4, 2) := by decide +kernel
theorem dX8_keeps_334 : decode cX8_keeps 334 = .ok (.iaload, 1) := by decide +kernel
theorem dX8_keeps_335 : decode cX8_keeps 335 = .ok (.laload, 1) := by decide +kernel
theorem dX8_keeps_336 : decode cX8_keeps 336 = .ok (.lastore, 1) := by decide +kernel
theorem dX8_keeps_337 : decode cX8_keeps 337 = .ok (.iinc 4 1, 3) := by decide +kernel
theorem dX8_keeps_340 : decode cX8_keeps 340 = .ok (.goto (-158), 3) := by decide +kernel
theorem dX8_keeps_343 : decode cX8_keeps 343 = .ok (.aload_n 0, 1) := by decide +kernel
theorem dX8_keeps_344 : decode cX8_keeps 344 = .ok (.getfield 36, 3) := by decide +kernel
theorem dX8_keeps_347 : decode cX8_keeps 347 = .ok (.iload_n 1, 1) := by decide +kernel
theorem dX8_keeps_348 : decode cX8_keeps 348 = .ok (.iconst 1, 1) := by decide +kernel
theorem dX8_keeps_349 : decode cX8_keeps 349 = .ok (.bastore, 1) := by decide +kernel
theorem dX8_keeps_350 : decode cX8_keeps 350 = .ok (.aload_n 0, 1) := by decide +kernel
theorem dX8_keeps_351 : decode cX8_keeps 351 = .ok (.getfield 40, 3) := by decide +kernel
theorem dX8_keeps_354 : decode cX8_keeps 354 = .ok (.iload_n 1, 1) := by decide +kernel
theorem dX8_keeps_355 : decode cX8_keeps 355 = .ok (.aload_n 0, 1) := by decide +kernel
theorem dX8_keeps_356 : decode cX8_keeps 356 = .ok (.getfield 107, 3) := by decide +kernel
theorem dX8_keeps_359 : decode cX8_keeps 359 = .ok (.iastore, 1) := by decide +kernel
theorem dX8_keeps_360 : decode cX8_keeps 360 = .ok (.aload_n 0, 1) := by decide +kernel
theorem dX8_keeps_361 : decode cX8_keeps 361 = .ok (.getfield 43, 3) := by decide +kernel
theorem dX8_keeps_364 : decode cX8_keeps 364 = .ok (.iload_n 1, 1) := by decide +kernel
theorem dX8_keeps_365 : decode cX8_keeps 365 = .ok (.iload_n 2, 1) := by decide +kernel
theorem dX8_keeps_366 : decode cX8_keeps 366 = .ok (.iastore, 1) := by decide +kernel
theorem dX8_keeps_367 : decode cX8_keeps 367 = .ok (.aload_n 0, 1) := by decide +kernel
theorem dX8_keeps_368 : decode cX8_keeps 368 = .ok (.getfield 46, 3) := by decide +kernel
theorem dX8_keeps_371 : decode cX8_keeps 371 = .ok (.iload_n 1, 1) := by decide +kernel
theorem dX8_keeps_372 : decode cX8_keeps 372 = .ok (.iload_n 3, 1) := by decide +kernel
theorem dX8_keeps_373 : decode cX8_keeps 373 = .ok (.ifCond .eq 7, 3) := by decide +kernel
theorem dX8_keeps_376 : decode cX8_keeps 376 = .ok (.iconst 1, 1) := by decide +kernel
theorem dX8_keeps_377 : decode cX8_keeps 377 = .ok (.goto 4, 3) := by decide +kernel
theorem dX8_keeps_380 : decode cX8_keeps 380 = .ok (.iconst 0, 1) := by decide +kernel
theorem dX8_keeps_381 : decode cX8_keeps 381 = .ok (.iastore, 1) := by decide +kernel
theorem dX8_keeps_382 : decode cX8_keeps 382 = .ok (.aload_n 0, 1) := by decide +kernel
theorem dX8_keeps_383 : decode cX8_keeps 383 = .ok (.getfield 49, 3) := by decide +kernel
theorem dX8_keeps_386 : decode cX8_keeps 386 = .ok (.iload_n 1, 1) := by decide +kernel
theorem dX8_keeps_387 : decode cX8_keeps 387 = .ok (.aload_n 0, 1) := by decide +kernel
theorem dX8_keeps_388 : decode cX8_keeps 388 = .ok (.getfield 188, 3) := by decide +kernel
theorem dX8_keeps_391 : decode cX8_keeps 391 = .ok (.iastore, 1) := by decide +kernel
theorem dX8_keeps_392 : decode cX8_keeps 392 = .ok (.iconst 0, 1) := by decide +kernel
theorem dX8_keeps_393 : decode cX8_keeps 393 = .ok (.istore 4, 2) := by decide +kernel
theorem dX8_keeps_395 : decode cX8_keeps 395 = .ok (.iload 4, 2) := by decide +kernel
theorem dX8_keeps_397 : decode cX8_keeps 397 = .ok (.bipush 20, 2) := by decide +kernel
theorem dX8_keeps_399 : decode cX8_keeps 399 = .ok (.if_icmp .ge 22, 3) := by decide +kernel
theorem dX8_keeps_402 : decode cX8_keeps 402 = .ok (.aload_n 0, 1) := by decide +kernel
theorem dX8_keeps_403 : decode cX8_keeps 403 = .ok (.getfield 68, 3) := by decide +kernel
theorem dX8_keeps_406 : decode cX8_keeps 406 = .ok (.bipush 20, 2) := by decide +kernel
theorem dX8_keeps_408 : decode cX8_keeps 408 = .ok (.iload_n 1, 1) := by decide +kernel
theorem dX8_keeps_409 : decode cX8_keeps 409 = .ok (.imul, 1) := by decide +kernel
theorem dX8_keeps_410 : decode cX8_keeps 410 = .ok (.iload 4, 2) := by decide +kernel
theorem dX8_keeps_412 : decode cX8_keeps 412 = .ok (.iadd, 1) := by decide +kernel
theorem dX8_keeps_413 : decode cX8_keeps 413 = .ok (.iconst 0, 1) := by decide +kernel
theorem dX8_keeps_414 : decode cX8_keeps 414 = .ok (.iastore, 1) := by decide +kernel
theorem dX8_keeps_415 : decode cX8_keeps 415 = .ok (.iinc 4 1, 3) := by decide +kernel
theorem dX8_keeps_418 : decode cX8_keeps 418 = .ok (.goto (-23), 3) := by decide +kernel
theorem dX8_keeps_421 : decode cX8_keeps 421 = .ok (.return_, 1) := by decide +kernel
theorem dX8_greedy_0 : decode cX8_greedy 0 = .ok (.iload_n 1, 1) := by decide +kernel
theorem dX8_greedy_1 : decode cX8_greedy 1 = .ok (.iconst 4, 1) := by decide +kernel
theorem dX8_greedy_2 : decode cX8_greedy 2 = .ok (.invokestatic 110, 3) := by decide +kernel
theorem dX8_greedy_5 : decode cX8_greedy 5 = .ok (.ifCond .eq 11, 3) := by decide +kernel
theorem dX8_greedy_8 : decode cX8_greedy 8 = .ok (.iload_n 2, 1) := by decide +kernel
theorem dX8_greedy_9 : decode cX8_greedy 9 = .ok (.iconst 5, 1) := by decide +kernel
theorem dX8_greedy_10 : decode cX8_greedy 10 = .ok (.invokestatic 110, 3) := by decide +kernel
theorem dX8_greedy_13 : decode cX8_greedy 13 = .ok (.ifCond .ne 5, 3) := by decide +kernel
theorem dX8_greedy_16 : decode cX8_greedy 16 = .ok (.iconst (-1), 1) := by decide +kernel
theorem dX8_greedy_17 : decode cX8_greedy 17 = .ok (.ireturn, 1) := by decide +kernel
theorem dX8_greedy_18 : decode cX8_greedy 18 = .ok (.aload_n 0, 1) := by decide +kernel
theorem dX8_greedy_19 : decode cX8_greedy 19 = .ok (.invokevirtual 202, 3) := by decide +kernel
theorem dX8_greedy_22 : decode cX8_greedy 22 = .ok (.aload_n 0, 1) := by decide +kernel
theorem dX8_greedy_23 : decode cX8_greedy 23 = .ok (.getfield 147, 3) := by decide +kernel
theorem dX8_greedy_26 : decode cX8_greedy 26 = .ok (.aload_n 0, 1) := by decide +kernel
theorem dX8_greedy_27 : decode cX8_greedy 27 = .ok (.getfield 107, 3) := by decide +kernel
theorem dX8_greedy_30 : decode cX8_greedy 30 = .ok (.iconst 1, 1) := by decide +kernel
theorem dX8_greedy_31 : decode cX8_greedy 31 = .ok (.isub, 1) := by decide +kernel
theorem dX8_greedy_32 : decode cX8_greedy 32 = .ok (.if_icmp .ge 11, 3) := by decide +kernel
theorem dX8_greedy_35 : decode cX8_greedy 35 = .ok (.aload_n 0, 1) := by decide +kernel
theorem dX8_greedy_36 : decode cX8_greedy 36 = .ok (.iload_n 2, 1) := by decide +kernel
theorem dX8_greedy_37 : decode cX8_greedy 37 = .ok (.invokevirtual 205, 3) := by decide +kernel
theorem dX8_greedy_40 : decode cX8_greedy 40 = .ok (.goto (-18), 3) := by decide +kernel
theorem dX8_greedy_43 : decode cX8_greedy 43 = .ok (.aload_n 0, 1) := by decide +kernel
theorem dX8_greedy_44 : decode cX8_greedy 44 = .ok (.iload_n 1, 1) := by decide +kernel
theorem dX8_greedy_45 : decode cX8_greedy 45 = .ok (.iload_n 2, 1) := by decide +kernel
theorem dX8_greedy_46 : decode cX8_greedy 46 = .ok (.iconst 0, 1) := by decide +kernel
theorem dX8_greedy_47 : decode cX8_greedy 47 = .ok (.invokevirtual 208, 3) := by decide +kernel
theorem dX8_greedy_50 : decode cX8_greedy 50 = .ok (.aload_n 0, 1) := by decide +kernel
theorem dX8_greedy_51 : decode cX8_greedy 51 = .ok (.getfield 147, 3) := by decide +kernel
theorem dX8_greedy_54 : decode cX8_greedy 54 = .ok (.ireturn, 1) := by decide +kernel
theorem dX8_chain_0 : decode cX8_chain 0 = .ok (.iload_n 1, 1) := by decide +kernel
theorem dX8_chain_1 : decode cX8_chain 1 = .ok (.iconst 4, 1) := by decide +kernel
theorem dX8_chain_2 : decode cX8_chain 2 = .ok (.invokestatic 110, 3) := by decide +kernel
theorem dX8_chain_5 : decode cX8_chain 5 = .ok (.ifCond .eq 11, 3) := by decide +kernel
theorem dX8_chain_8 : decode cX8_chain 8 = .ok (.iload_n 2, 1) := by decide +kernel
